set_option maxRecDepth 100000
def pn (k i j c : Nat) : Nat := if k < j then 0 else if k = j then i else c
def rkc (k : Nat) : Nat := if k = 0 then 33 else if k = 1 then 35 else if k = 2 then 6 else 3
def ROWc (n : Nat) (ow kd : Nat → Nat) (P : Int64 → Prop) (U : Nat) (src : Nat → Int64) (bs : Nat → Nat) (r0 row : Nat → Int64) (c k : Nat) : Prop := ∀ j, j < c → GT n ow kd P (r0 j) ∧ (j < k → RTO U src bs (r0 j) (row j)) ∧ (k ≤ j → row j = r0 j)
def CLc (u0 : MS) (q : Nat) (h : Nat → Int64) (n : Nat) (ow kd : Nat → Nat) (P : Int64 → Prop) (B W Y : Nat) (w : MS) (k i U : Nat) : Prop :=
  ∃ (src : Nat → Int64) (bs : Nat → Nat), FR [] [] [] [pq q 2, pq q 3, pq q 33, pq q 35, pq q 6] u0 w ∧ CPc h n ow kd P (w.2.2.2 (pq q 3)) 0 U (if k = 3 then i else 0) src bs ∧ FWD h n (w.2.2.2 (pq q 2)) U src bs ∧ CNT ow n U src bs ∧ ROWc n ow kd P U src bs (u0.2.2.2 (pq q 33)) (w.2.2.2 (pq q 33)) B (pn k i 0 B) ∧ ROWc n ow kd P U src bs (u0.2.2.2 (pq q 35)) (w.2.2.2 (pq q 35)) W (pn k i 1 W) ∧ ROWc n ow kd P U src bs (u0.2.2.2 (pq q 6)) (w.2.2.2 (pq q 6)) Y (pn k i 2 Y) ∧ (k = 3 → i ≤ U)
section
variable {h : Nat → Int64} {n N q B W Y k : Nat} {ow kd : Nat → Nat} {Fv : Int64 → Int64 → Prop} {P : Int64 → Prop} {u v w u0 : MS} {t x y : Int64}
theorem ROW_add {U m c k : Nat} {src : Nat → Int64} {bs : Nat → Nat} {r0 row : Nat → Int64} (r : ROWc n ow kd P U src bs r0 row c k) : ROWc n ow kd P (U + m) (fun k => if k = U then x else src k) (fun k => if U ≤ k then U else bs k) r0 row c k := fun j hj => ⟨(r j hj).1, fun z => RTO_add ((r j hj).2.1 z), (r j hj).2.2⟩
theorem ROW_set {U c k : Nat} {src : Nat → Int64} {bs : Nat → Nat} {r0 row row2 : Nat → Int64} (r : ROWc n ow kd P U src bs r0 row c k) (h1 : ∀ j, j ≠ k → row2 j = row j) (h2 : k < c → RTO U src bs (r0 k) (row2 k)) : ROWc n ow kd P U src bs r0 row2 c (k + 1) := by
  intro j hj
  by_cases e : j = k
  · subst e; exact ⟨(r j hj).1, fun _ => h2 hj, fun z => by omega⟩
  · rw [h1 j e]; exact ⟨(r j hj).1, fun z => (r j hj).2.1 (by omega), fun z => (r j hj).2.2 (by omega)⟩
theorem CNT_le {U : Nat} {src : Nat → Int64} {bs : Nat → Nat} (c : CNT ow n U src bs) : U ≤ n := by
  obtain ⟨S, dS, -, s2⟩ := c
  have := @cnt_le S dS ow n
  omega
def CLB (u0 : MS) (q B W Y : Nat) : Prop := (∃ l, F u0 (pq q 43) = ((l : Nat) : Int) ∧ B ≤ l ∧ l ≤ 1000000) ∧ (∃ l, F u0 (pq q 45) = ((l : Nat) : Int) ∧ W ≤ l ∧ l ≤ 1000000) ∧ Y ≤ 30
def cbd (B W Y k : Nat) : Nat := if k = 0 then B else if k = 1 then W else if k = 2 then Y else 512
theorem lnQ_e {m : MS} {k l : Nat} (h : F m (pq q k) = ((l : Nat) : Int)) : lnQ m q k = l := by
  unfold lnQ
  rw [I_F, h]
  exact tnI rfl (by have := F_r m (pq q k); omega)
theorem lnX_k (hB : CLB u0 q B W Y) (f : FR [] [] [] [pq q 2, pq q 3, pq q 33, pq q 35, pq q 6] u0 w) (hk : k ≤ 3) : cbd B W Y k ≤ lnX w (pq q (rkc k)) ∧ lnX w (pq q (rkc k)) ≤ 1000000 := by
  obtain ⟨⟨l1, a1, a2, a3⟩, ⟨l2, b1, b2, b3⟩, c1⟩ := hB
  have e43 : lnQ w q 43 = l1 := lnQ_e (by rw [FR.F f (by simp)]; exact a1)
  have e45 : lnQ w q 45 = l2 := lnQ_e (by rw [FR.F f (by simp)]; exact b1)
  rcases (show k = 0 ∨ k = 1 ∨ k = 2 ∨ k = 3 by omega) with rfl | rfl | rfl | rfl
  · rw [lnX_e (by decide)]; show B ≤ lnQ w q 43 ∧ lnQ w q 43 ≤ _; omega
  · rw [lnX_e (by decide)]; show W ≤ lnQ w q 45 ∧ lnQ w q 45 ≤ _; omega
  · rw [lnX_e (by decide)]; show Y ≤ 30 ∧ 30 ≤ _; omega
  · rw [lnX_e (by decide)]; show 512 ≤ 512 ∧ 512 ≤ _; omega
theorem pq_inj {a b : Nat} (h : a ≠ b) : pq q a ≠ pq q b := by unfold pq; omega
theorem CLc_at {i U : Nat} (c : CLc u0 q h n ow kd P B W Y w k i U) (hk : k ≤ 3) (g : HPc h n ow kd Fv P) (hF : FVc Fv) (hi : i < (if k = 3 then U else cbd B W Y k)) (hx : isH (w.2.2.2 (pq q (rkc k)) i)) : GT n ow kd P (w.2.2.2 (pq q (rkc k)) i) := by
  obtain ⟨src, bs, f, c1, c2, c3, r0, r1, r2, r3⟩ := c
  rcases (show k = 0 ∨ k = 1 ∨ k = 2 ∨ k = 3 by omega) with rfl | rfl | rfl | rfl
  · show GT n ow kd P (w.2.2.2 (pq q 33) i); rw [(r0 i hi).2.2 (Nat.le_refl _)]; exact (r0 i hi).1
  · show GT n ow kd P (w.2.2.2 (pq q 35) i); rw [(r1 i hi).2.2 (Nat.le_refl _)]; exact (r1 i hi).1
  · show GT n ow kd P (w.2.2.2 (pq q 6) i); rw [(r2 i hi).2.2 (Nat.le_refl _)]; exact (r2 i hi).1
  · have hi : i < U := hi
    have hx : isH (w.2.2.2 (pq q 3) i) := hx
    rw [if_pos rfl] at c1
    show GT n ow kd P (w.2.2.2 (pq q 3) i)
    rw [CPc_at c1 (Nat.zero_le _) hi hx]
    exact xcO_gt g hF c1 (Nat.zero_le _) hi (by rw [← CPc_at c1 (Nat.zero_le _) hi hx]; exact hx)
theorem CLc_skip {i U : Nat} (c : CLc u0 q h n ow kd P B W Y w k i U) (hk : k ≤ 3) (hi : i < (if k = 3 then U else cbd B W Y k)) (hx : ¬ isH (w.2.2.2 (pq q (rkc k)) i)) : CLc u0 q h n ow kd P B W Y w k (i + 1) U := by
  obtain ⟨src, bs, f, c1, c2, c3, r0, r1, r2, r3⟩ := c
  have same : ∀ {r0 row : Nat → Int64} {c : Nat}, ¬ isH (row i) → ROWc n ow kd P U src bs r0 row c i → i < c → ROWc n ow kd P U src bs r0 row c (i + 1) := fun {r0 row c} hn r hic => ROW_set r (fun _ _ => rfl) (fun _ => by
    have e := (r i hic).2.2 (Nat.le_refl _)
    rw [e] at hn ⊢
    exact Or.inl ⟨hn, rfl⟩)
  rcases (show k = 0 ∨ k = 1 ∨ k = 2 ∨ k = 3 by omega) with rfl | rfl | rfl | rfl
  · exact ⟨src, bs, f, c1, c2, c3, same hx r0 hi, r1, r2, fun z => (by cases z)⟩
  · exact ⟨src, bs, f, c1, c2, c3, r0, same hx r1 hi, r2, fun z => (by cases z)⟩
  · exact ⟨src, bs, f, c1, c2, c3, r0, r1, same hx r2 hi, fun z => (by cases z)⟩
  · rw [if_pos rfl] at c1
    exact ⟨src, bs, f, by rw [if_pos rfl]; exact CPc_next c1 (Nat.zero_le _) hi hx, c2, c3, r0, r1, r2, fun _ => hi⟩
theorem rk_ne2 (hk : k ≤ 3) : pq q (rkc k) ≠ pq q 2 := by
  rcases (show k = 0 ∨ k = 1 ∨ k = 2 ∨ k = 3 by omega) with rfl | rfl | rfl | rfl <;> exact pq_inj (by decide)
theorem rk_in (hk : k ≤ 3) : pq q (rkc k) ∈ [pq q 2, pq q 3, pq q 33, pq q 35, pq q 6] := by
  rcases (show k = 0 ∨ k = 1 ∨ k = 2 ∨ k = 3 by omega) with rfl | rfl | rfl | rfl <;> simp [rkc]
theorem CLc_put {i U b : Nat} {src : Nat → Int64} {bs : Nat → Nat} {p : Int64} (hk : k ≤ 3) (hi : i < (if k = 3 then U else cbd B W Y k)) (hx : isH (w.2.2.2 (pq q (rkc k)) i)) (f : FR [] [] [] [pq q 2, pq q 3, pq q 33, pq q 35, pq q 6] u0 w) (c1 : CPc h n ow kd P (w.2.2.2 (pq q 3)) 0 U (if k = 3 then i else 0) src bs) (c2 : FWD h n (w.2.2.2 (pq q 2)) U src bs) (c3 : CNT ow n U src bs) (r0 : ROWc n ow kd P U src bs (u0.2.2.2 (pq q 33)) (w.2.2.2 (pq q 33)) B (pn k i 0 B)) (r1 : ROWc n ow kd P U src bs (u0.2.2.2 (pq q 35)) (w.2.2.2 (pq q 35)) W (pn k i 1 W)) (r2 : ROWc n ow kd P U src bs (u0.2.2.2 (pq q 6)) (w.2.2.2 (pq q 6)) Y (pn k i 2 Y))
    (hb2 : b < U) (hb3 : bs b = b) (hb4 : src b = w.2.2.2 (pq q (rkc k)) i) (e1 : so p = so (w.2.2.2 (pq q (rkc k)) i)) (e2 : va p = ((b : Nat) : Int)) : CLc u0 q h n ow kd P B W Y (wj w (pq q (rkc k)) i p) k (i + 1) U := by
  have hp : isH p := by unfold isH; rw [e1]; exact hx
  have hr : RTO U src bs (w.2.2.2 (pq q (rkc k)) i) p := Or.inr ⟨hx, e1, b, e2, hb2, hb3, hb4⟩
  have row : ∀ j, (wj w (pq q (rkc k)) i p).2.2.2 (pq q (rkc k)) j = if j = i then p else w.2.2.2 (pq q (rkc k)) j := fun j => wj_row
  have oth : ∀ a, a ≠ rkc k → (wj w (pq q (rkc k)) i p).2.2.2 (pq q a) = w.2.2.2 (pq q a) := fun a ha => if_neg (pq_inj ha)
  have set1 : ∀ {r0 : Nat → Int64} {c : Nat}, ROWc n ow kd P U src bs r0 (w.2.2.2 (pq q (rkc k))) c i → ROWc n ow kd P U src bs r0 ((wj w (pq q (rkc k)) i p).2.2.2 (pq q (rkc k))) c (i + 1) := fun {r0 c} r => ROW_set r (fun j hj => by rw [row, if_neg hj]) (fun hic => by
    rw [row, if_pos rfl, ← (r i hic).2.2 (Nat.le_refl _)]; exact hr)
  refine ⟨src, bs, FR.wj f (rk_in hk), ?_⟩
  rcases (show k = 0 ∨ k = 1 ∨ k = 2 ∨ k = 3 by omega) with rfl | rfl | rfl | rfl
  · refine ⟨by rw [oth 3 (by decide)]; exact c1, by rw [oth 2 (by decide)]; exact c2, c3, set1 r0, by rw [oth 35 (by decide)]; exact r1, by rw [oth 6 (by decide)]; exact r2, fun z => (by cases z)⟩
  · refine ⟨by rw [oth 3 (by decide)]; exact c1, by rw [oth 2 (by decide)]; exact c2, c3, by rw [oth 33 (by decide)]; exact r0, set1 r1, by rw [oth 6 (by decide)]; exact r2, fun z => (by cases z)⟩
  · refine ⟨by rw [oth 3 (by decide)]; exact c1, by rw [oth 2 (by decide)]; exact c2, c3, by rw [oth 33 (by decide)]; exact r0, by rw [oth 35 (by decide)]; exact r1, set1 r2, fun z => (by cases z)⟩
  · rw [if_pos rfl] at c1 hi
    refine ⟨?_, by rw [oth 2 (by decide)]; exact c2, c3, by rw [oth 33 (by decide)]; exact r0, by rw [oth 35 (by decide)]; exact r1, by rw [oth 6 (by decide)]; exact r2, fun _ => hi⟩
    rw [if_pos rfl]
    refine CPc_ptr c1 (Nat.zero_le _) hi hx (Nat.zero_le _) hb2 hb3 hb4 ?_ (fun j _ _ hj => ?_)
    · rw [show (wj w (pq q (rkc 3)) i p).2.2.2 (pq q 3) i = p from by have := row i; rw [if_pos rfl] at this; exact this]
      exact ⟨e1, e2⟩
    · have := row j; rw [if_neg hj] at this; exact this
theorem va_9 {U : Nat} (hU : U ≤ 1000) : so ((38654705664 : Int64) ||| (I (U : Int)).toInt64) = 9 ∧ va ((38654705664 : Int64) ||| (I (U : Int)).toInt64) = ((U : Nat) : Int) := by
  rw [moved_e]
  exact ⟨so_tg (by omega) (by omega) ⟨by decide, by decide⟩, va_or (by omega) (by omega)⟩
theorem BK_agree2 {h2 : Nat → Int64} (e : ∀ j, j < blk h t → h2 (vn t + j) = h (vn t + j)) (z : isH t) (k : BKc h n ow kd Fv t) : BKc h2 n ow kd Fv t ∧ blk h2 t = blk h t := by
  have hb := blk_pos (h := h) z
  obtain ⟨k1, k2, k3, k4, k5, k6⟩ := k
  have e0 : h2 (vn t) = h (vn t) := e 0 hb
  have e1 : so t = 3 → h2 (vn t + 1) = h (vn t + 1) := fun z3 => e 1 (by
    have : blk h t = 2 + vn (h (vn t + 1)) := by unfold blk; rw [if_neg (by omega), if_neg (by omega), if_pos z3]
    omega)
  have eb : blk h2 t = blk h t := by
    unfold blk
    rw [e0]
    by_cases z3 : so t = 3
    · rw [e1 z3]
    · rw [if_neg z3, if_neg z3]
  refine ⟨⟨k1, fun y => by rw [e0]; exact k2 y, fun y => by rw [e0, e1 y]; exact k3 y, by rw [eb]; exact k4, k5, by rw [eb]; exact k6⟩, eb⟩
theorem clear_160 {G : (MS → Nat → Int32 → Int32 → Option (MS × Unit)) × (MS → Nat → Int32 → Int32 → Nat → Int32 → Int32 → Option (MS × Unit))} {Q : MS → Unit → Prop} {i U : Nat} {fx : Int32} (hk : k ≤ 3) (g : HPc h n ow kd Fv P) (hn : n ≤ 500) (hF : FVc Fv) (hP : ∀ t, P t → PT u t) (hB : CLB u0 q B W Y) (hi : i < (if k = 3 then U else cbd B W Y k)) (c : CLc u0 q h n ow kd P B W Y w k i U) (hx : isH (w.2.2.2 (pq q (rkc k)) i))
    (nxt : ∀ w2 U2, CLc u0 q h n ow kd P B W Y w2 k (i + 1) U2 → OK Q (hb_Pr_clearHeap_250 N G w2 q (I (U2 : Int)) (I (k : Int)) (pq q (rkc k)) fx (I (i : Int)))) : OK Q (hb_Pr_clearHeap_160 N G w q (I (U : Int)) (I (k : Int)) (pq q (rkc k)) fx (I (i : Int)) (I (so (w.2.2.2 (pq q (rkc k)) i)))) := by
  have gx := CLc_at c hk g hF hi hx
  obtain ⟨src, bs, f, c1, c2, c3, r0, r1, r2, r3⟩ := c
  have hUn := CNT_le c3
  have hlx := lnX_k hB f hk
  have hil : i < lnX w (pq q (rkc k)) ∧ i ≤ 1000000 := by
    by_cases e : k = 3
    · subst e
      rw [if_pos rfl] at hi
      have : cbd B W Y 3 = 512 := rfl
      omega
    · rw [if_neg e] at hi
      omega
  obtain ⟨bk, bp⟩ := HP_bkc g hx gx
  have hbp := blk_pos (h := h) hx
  have hbl := bk.2.2.2.1
  have hv := vn_e bk.1
  unfold hb_Pr_clearHeap_160
  refine e_in ⟨by omega, by omega⟩ (by omega) ?_
  rw [tnI (n := i) rfl (by omega)]
  generalize hX : w.2.2.2 (pq q (rkc k)) i = X at *
  rw [valI, hv]
  refine e_in ⟨by omega, by omega⟩ (by decide) ?_
  rw [tnI (n := vn X) rfl (by omega), tagI, I_lit (n := 9)]
  have hr9 := so_r (w.2.2.2 (pq q 2) (vn X))
  have h230 : ∀ (w2 : MS) (U2 b : Nat) (src2 : Nat → Int64) (bs2 : Nat → Nat), FR [] [] [] [pq q 2, pq q 3, pq q 33, pq q 35, pq q 6] u0 w2 → CPc h n ow kd P (w2.2.2.2 (pq q 3)) 0 U2 (if k = 3 then i else 0) src2 bs2 → FWD h n (w2.2.2.2 (pq q 2)) U2 src2 bs2 → CNT ow n U2 src2 bs2 → ROWc n ow kd P U2 src2 bs2 (u0.2.2.2 (pq q 33)) (w2.2.2.2 (pq q 33)) B (pn k i 0 B) → ROWc n ow kd P U2 src2 bs2 (u0.2.2.2 (pq q 35)) (w2.2.2.2 (pq q 35)) W (pn k i 1 W) → ROWc n ow kd P U2 src2 bs2 (u0.2.2.2 (pq q 6)) (w2.2.2.2 (pq q 6)) Y (pn k i 2 Y) → w2.2.2.2 (pq q (rkc k)) i = X → i < (if k = 3 then U2 else cbd B W Y k) → b < U2 → bs2 b = b → src2 b = X → va (w2.2.2.2 (pq q 2) (vn X)) = ((b : Nat) : Int) → OK Q (hb_Pr_clearHeap_230 N G w2 q (I (U2 : Int)) (I (k : Int)) (pq q (rkc k)) fx (I (i : Int)) (I (so X)) (I (vn X : Int))) := by
    intro w2 U2 b src2 bs2 f' d1 d2 d3 q0 q1 q2 e0 hi' b1 b2 b3 b4
    unfold hb_Pr_clearHeap_230
    have hlx2 := lnX_k hB f' hk
    have hU2 := CNT_le d3
    have hil2 : i < lnX w2 (pq q (rkc k)) := by
      by_cases e : k = 3
      · subst e
        have : cbd B W Y 3 = 512 := rfl
        rw [if_pos rfl] at hi'
        omega
      · rw [if_neg e] at hi'
        omega
    refine e_in ⟨by omega, by omega⟩ (by decide) (e_in ⟨by omega, by omega⟩ (by omega) (ok_lt.mpr ?_))
    rw [tnI (n := i) rfl (by omega), tnI (n := vn X) rfl (by omega), valI, b4, wj_e]
    have hso := so_r X
    refine nxt _ U2 (CLc_put (b := b) (src := src2) (bs := bs2) hk hi' (by rw [e0]; exact hx) f' d1 d2 d3 q0 q1 q2 b1 b2 (by rw [e0]; exact b3) ?_ (va_or (by omega) (by omega)))
    rw [e0]
    exact so_tg (by omega) (by omega) hso
  refine k_eq hr9 ⟨by decide, by decide⟩ (fun y => ?_) (fun y => ?_)
  · obtain ⟨b, b1, b2, b3, b4⟩ := fwd_yes g hF hP c2 c1 hx gx y
    exact h230 w U b src bs f c1 c2 c3 r0 r1 r2 hX hi b1 b2 b3 b4
  · obtain ⟨n1, n2⟩ := fwd_no g c2 c1 hx gx y
    obtain ⟨bk2, eb⟩ := BK_agree2 (h2 := w.2.2.2 (pq q 2)) n1 hx bk
    have hbs : ∀ b, b < U → bs b ≤ b := fun b hb => (c1.2.1 b (Nat.zero_le _) hb).2.1
    obtain ⟨m1, m2⟩ := CNT_add g c3 hx gx n2 hbs
    refine e_in ⟨by omega, by omega⟩ (by omega) ?_
    rw [cellsAt_h rfl (by omega) hx bk2, bnd_so, eb]
    refine e_cp ⟨by omega, by omega, by omega, by omega, by omega⟩ (by decide) (by decide) (ok_lt.mpr ?_)
    rw [tnI (n := U) rfl (by omega), tnI (n := blk h X) rfl (by omega)]
    refine e_in ⟨by omega, by omega⟩ (by decide) (ok_lt.mpr ?_)
    rw [wj_e, I_add, show ((U : Nat) : Int) + ((blk h X : Nat) : Int) = ((U + blk h X : Nat) : Int) by omega]
    generalize hw : upJ w (pq q 3) (va_cpy (w.2.2.2 (pq q 2)) (w.2.2.2 (pq q 3)) (vn X) U (blk h X)) = w1
    have f1 : FR [] [] [] [pq q 2, pq q 3, pq q 33, pq q 35, pq q 6] u0 w1 := by rw [← hw]; exact FR_upJ f (by simp)
    have e3 : w1.2.2.2 (pq q 3) = va_cpy (w.2.2.2 (pq q 2)) (w.2.2.2 (pq q 3)) (vn X) U (blk h X) := by rw [← hw]; exact upJ_row
    have eo : ∀ a, a ≠ 3 → w1.2.2.2 (pq q a) = w.2.2.2 (pq q a) := fun a ha => by rw [← hw]; exact if_neg (pq_inj ha)
    have v9 := va_9 (U := U) (by omega)
    generalize (38654705664 : Int64) ||| (I (U : Int)).toInt64 = mv at *
    have r2e : ∀ j, (wj w1 (pq q 2) (vn X) mv).2.2.2 (pq q 2) j = if j = vn X then mv else w.2.2.2 (pq q 2) j := fun j => by rw [wj_row, eo 2 (by decide)]
    have ro : ∀ a, a ≠ 2 → (wj w1 (pq q 2) (vn X) mv).2.2.2 (pq q a) = w1.2.2.2 (pq q a) := fun a ha => if_neg (pq_inj ha)
    have hrk3 : rkc k = 3 ↔ k = 3 := by
      rcases (show k = 0 ∨ k = 1 ∨ k = 2 ∨ k = 3 by omega) with rfl | rfl | rfl | rfl <;> decide
    have hrk2 : rkc k ≠ 2 := by
      rcases (show k = 0 ∨ k = 1 ∨ k = 2 ∨ k = 3 by omega) with rfl | rfl | rfl | rfl <;> decide
    refine h230 (wj w1 (pq q 2) (vn X) mv) (U + blk h X) U (fun k => if k = U then X else src k) (fun k => if U ≤ k then U else bs k) (FR.wj f1 (by simp)) ?_ ?_ m1 ?_ ?_ ?_ ?_ ?_ (by omega) (by simp) (by simp) ?_
    · rw [ro 3 (by decide), e3]
      refine CPc_grow c1 ?_ hx gx (fun j hj => ?_) (fun j _ hj => ?_)
      · by_cases e : k = 3
        · rw [if_pos e] at hi ⊢; omega
        · rw [if_neg e]; omega
      · rw [cpy_in hj]; exact n1 j hj
      · rw [cpy_out (by omega)]
    · refine FWD_add c2 n2 (by rw [r2e, if_pos rfl]; exact v9) (fun j hj => by rw [r2e, if_neg hj]) hbp (fun b b1 b2 => ?_)
      by_cases e : U ≤ b
      · rw [if_pos e] at b2; omega
      · omega
    · rw [ro 33 (by decide), eo 33 (by decide)]; exact ROW_add r0
    · rw [ro 35 (by decide), eo 35 (by decide)]; exact ROW_add r1
    · rw [ro 6 (by decide), eo 6 (by decide)]; exact ROW_add r2
    · rw [ro _ hrk2]
      by_cases e : k = 3
      · subst e
        rw [if_pos rfl] at hi
        show w1.2.2.2 (pq q 3) i = X
        rw [e3, cpy_out (by omega)]
        exact hX
      · rw [eo _ (fun z => e (hrk3.mp z))]; exact hX
    · by_cases e : k = 3
      · rw [if_pos e] at hi ⊢; omega
      · rw [if_neg e] at hi ⊢; exact hi
    · rw [r2e, if_pos rfl]; exact v9.2
theorem clear_in {Q : MS → Unit → Prop} {L : Nat} (hk : k ≤ 3) (g : HPc h n ow kd Fv P) (hn : n ≤ 500) (hF : FVc Fv) (hP : ∀ t, P t → PT u t) (hB : CLB u0 q B W Y) {fx : Int} (hfx : k ≠ 3 → fx = ((cbd B W Y k : Nat) : Int)) (hfr : RG fx)
    (q2 : ∀ (L2 : Nat) (w : MS) (U : Nat), L ≤ L2 → CLc u0 q h n ow kd P B W Y w k (if k = 3 then U else cbd B W Y k) U → OK Q ((hg_Pr_clearHeap N L2).1 w q (I (U : Int)) (I ((k + 1 : Nat) : Int)))) : ∀ (M i : Nat) (w : MS) (U : Nat), L + (cbd B W Y k - i) + 1 ≤ M → i ≤ (if k = 3 then U else cbd B W Y k) → CLc u0 q h n ow kd P B W Y w k i U → OK Q ((hg_Pr_clearHeap N M).2 w q (I (U : Int)) (I (k : Int)) (pq q (rkc k)) (I fx) (I (i : Int))) := by
  intro M
  induction M with
  | zero => intro i w U z; omega
  | succ M ih =>
    intro i w U hM hi c
    have c' := c
    obtain ⟨src, bs, f, c1, c2, c3, r0, r1, r2, r3⟩ := c
    have hUn := CNT_le c3
    have hlx := lnX_k hB f hk
    have hcb : cbd B W Y 3 = 512 := rfl
    have hib : i ≤ cbd B W Y k := by
      by_cases e : k = 3
      · subst e; rw [if_pos rfl] at hi; omega
      · rw [if_neg e] at hi; exact hi
    show OK Q (hb_Pr_clearHeap_112 N (hg_Pr_clearHeap N M) w q (I (U : Int)) (I (k : Int)) (pq q (rkc k)) (I fx) (I (i : Int)))
    have main : ∀ t1 : Int, t1 = (if k = 3 then ((U : Nat) : Int) else ((cbd B W Y k : Nat) : Int)) → OK Q (hb_Pr_clearHeap_125 N (hg_Pr_clearHeap N M) w q (I (U : Int)) (I (k : Int)) (pq q (rkc k)) (I fx) (I (i : Int)) (I (i : Int)) (I t1)) := by
      intro t1 ht1
      have ht2 : t1 = (((if k = 3 then U else cbd B W Y k) : Nat) : Int) := by rw [ht1]; split <;> rfl
      generalize hE : (if k = 3 then U else cbd B W Y k) = E at *
      have hEb : E ≤ cbd B W Y k := by
        by_cases e : k = 3
        · subst e; rw [if_pos rfl] at hE; omega
        · rw [if_neg e] at hE; omega
      unfold hb_Pr_clearHeap_125
      rw [ht2]
      refine k_le ⟨by omega, by omega⟩ ⟨by omega, by omega⟩ (fun y => ?_) (fun y => ?_)
      · have ei : i = E := by omega
        rw [lit1q, I_add, show ((k : Nat) : Int) + 1 = ((k + 1 : Nat) : Int) by omega]
        subst ei
        refine q2 M w U (by omega) ?_
        rw [hE]
        exact c'
      · have hiE : i < E := by omega
        have hi3 : i < (if k = 3 then U else cbd B W Y k) := by rw [hE]; exact hiE
        refine e_in ⟨by omega, by omega⟩ (by omega) (ok_lt.mpr ?_)
        rw [tnI (n := i) rfl (by omega), tagI]
        have hr := so_r (w.2.2.2 (pq q (rkc k)) i)
        have nxt : ∀ w2 U2, CLc u0 q h n ow kd P B W Y w2 k (i + 1) U2 → OK Q (hb_Pr_clearHeap_250 N (hg_Pr_clearHeap N M) w2 q (I (U2 : Int)) (I (k : Int)) (pq q (rkc k)) (I fx) (I (i : Int))) := by
          intro w2 U2 c4
          unfold hb_Pr_clearHeap_250
          rw [lit1q, I_add, show ((i : Nat) : Int) + 1 = ((i + 1 : Nat) : Int) by omega]
          refine ih (i + 1) w2 U2 (by omega) ?_ c4
          by_cases e : k = 3
          · subst e
            rw [if_pos rfl]
            obtain ⟨src4, bs4, -, -, -, -, -, -, -, d9⟩ := c4
            exact d9 rfl
          · rw [if_neg e] at hi3 ⊢; omega
        have hH : isH (w.2.2.2 (pq q (rkc k)) i) → OK Q (hb_Pr_clearHeap_160 N (hg_Pr_clearHeap N M) w q (I (U : Int)) (I (k : Int)) (pq q (rkc k)) (I fx) (I (i : Int)) (I (so (w.2.2.2 (pq q (rkc k)) i)))) := fun hx => clear_160 hk g hn hF hP hB hi3 c' hx nxt
        rw [I_lit (n := 7), I_lit (n := 5), I_lit (n := 3)]
        refine k_eq hr ⟨by decide, by decide⟩ (fun y7 => hH (Or.inr (Or.inr y7))) (fun n7 => k_eq hr ⟨by decide, by decide⟩ (fun y5 => hH (Or.inr (Or.inl y5))) (fun n5 => k_eq hr ⟨by decide, by decide⟩ (fun y3 => hH (Or.inl y3)) (fun n3 => ?_)))
        refine nxt w U (CLc_skip c' hk hi3 (fun z => ?_))
        rcases z with z | z | z
        · exact n3 z
        · exact n5 z
        · exact n7 z
    unfold hb_Pr_clearHeap_112
    rw [I_lit (n := 3)]
    refine k_eq ⟨by omega, by omega⟩ ⟨by decide, by decide⟩ (fun y => ?_) (fun y => ?_)
    · have e : k = 3 := by have : ((k : Nat) : Int) = 3 := y; omega
      exact main _ (by rw [if_pos e])
    · have e : k ≠ 3 := fun z => y (by rw [z]; rfl)
      exact main _ (by rw [if_neg e]; exact hfx e)
def PTQ (m : MS) (q n : Nat) (ow kd : Nat → Nat) (Fv : Int64 → Int64 → Prop) (P : Int64 → Prop) (B W Y : Nat) : Prop :=
  (F m (pq q 4) = ((n : Nat) : Int) ∧ n ≤ 500 ∧ HPc (m.2.2.2 (pq q 2)) n ow kd Fv P) ∧ (F m (pq q 24) = ((B : Nat) : Int) ∧ ∀ i, i < B → GT n ow kd P (m.2.2.2 (pq q 33) i)) ∧ (F m (pq q 26) = ((W : Nat) : Int) ∧ ∀ i, i < W → GT n ow kd P (m.2.2.2 (pq q 35) i)) ∧ (F m (pq q 7) = ((Y : Nat) : Int) ∧ ∀ i, i < Y → GT n ow kd P (m.2.2.2 (pq q 6) i)) ∧ CLB m q B W Y
def SML (h : Nat → Int64) (n : Nat) (ow kd : Nat → Nat) (h2 : Nat → Int64) (n2 : Nat) (ow2 kd2 : Nat → Nat) (Fv : Int64 → Int64 → Prop) (P : Int64 → Prop) (o r : Int64) : Prop := so r = so o ∧ ((¬ isH o → r = o) ∧ ∀ k, (∀ j, j < k → so (tlc h o j) = 7) → so (tlc h2 r k) = so (tlc h o k)) ∧ ∀ f s, SZc h n ow kd Fv P f o s → SZc h2 n2 ow2 kd2 Fv P f r s
def CLQc (u : MS) (q : Nat) (h : Nat → Int64) (n : Nat) (ow kd : Nat → Nat) (Fv : Int64 → Int64 → Prop) (P : Int64 → Prop) (B W Y : Nat) (w : MS) : Prop := ∃ U ow2 kd2, PTQ w q U ow2 kd2 Fv P B W Y ∧ U ≤ n ∧ FR [pq q 4, pq q 5] [] [] [pq q 2, pq q 3, pq q 33, pq q 35, pq q 6] u w ∧ (∀ i, i < B → SML h n ow kd (w.2.2.2 (pq q 2)) U ow2 kd2 Fv P (u.2.2.2 (pq q 33) i) (w.2.2.2 (pq q 33) i)) ∧ (∀ i, i < W → SML h n ow kd (w.2.2.2 (pq q 2)) U ow2 kd2 Fv P (u.2.2.2 (pq q 35) i) (w.2.2.2 (pq q 35) i))
theorem clearHeap_ok (p : PTQ u q n ow kd Fv P B W Y) (hF : FVc Fv) (hP : ∀ t, P t → PT u t) (hN : 10 + B + W + Y + 600 ≤ N) : OK (fun w _ => CLQc u q (u.2.2.2 (pq q 2)) n ow kd Fv P B W Y w) (hm_Pr_clearHeap N u q) := by
  obtain ⟨⟨p1, p2, p3⟩, ⟨p4, p5⟩, ⟨p6, p7⟩, ⟨p8, p9⟩, p10⟩ := p
  unfold hm_Pr_clearHeap hb_Pr_clearHeap_0
  refine ok_lt.mpr ?_
  generalize hu0 : upI u (pq q 5) (u.1 (pq q 5) + 1) = u0
  have f0 : FR [pq q 5] [] [] [] u u0 := by rw [← hu0, I_of (u.1 (pq q 5) + 1), wi_e]; exact FR.wi FR.rf (by simp)
  have pn5 : ∀ a, a ≠ 5 → pq q a ∉ [pq q 5] := fun a ha => by simp; exact pq_inj ha
  have B0 : CLB u0 q B W Y := by
    obtain ⟨⟨l, a1, a2⟩, ⟨l2, b1, b2⟩, c⟩ := p10
    exact ⟨⟨l, by rw [FR.F f0 (pn5 43 (by decide))]; exact a1, a2⟩, ⟨l2, by rw [FR.F f0 (pn5 45 (by decide))]; exact b1, b2⟩, c⟩
  have row : ∀ a, u0.2.2.2 (pq q a) = u.2.2.2 (pq q a) := fun a => FRj f0 (by simp)
  have hBb : B ≤ 1000000 ∧ W ≤ 1000000 ∧ Y ≤ 30 := by
    obtain ⟨⟨l, a1, a2, a3⟩, ⟨l2, b1, b2, b3⟩, c⟩ := p10
    omega
  have g : HPc (u.2.2.2 (pq q 2)) n ow kd Fv P := p3
  generalize hh : u.2.2.2 (pq q 2) = h at *
  have st : CLc u0 q h n ow kd P B W Y u0 0 0 0 := by
    refine ⟨fun _ => 0, fun _ => 0, FR.rf, ?_, ?_, ?_, ?_, ?_, ?_, fun z => (by cases z)⟩
    · exact ⟨Nat.le_refl _, fun c _ z => by omega, fun c _ z => by omega⟩
    · exact ⟨fun b hb => by omega, fun c hc _ => by rw [row, hh]⟩
    · refine ⟨fun _ => False, fun _ => instDecidableFalse, fun k => ⟨fun z => z.elim, fun ⟨b, z, _⟩ => by omega⟩, Nat.zero_le _⟩
    · exact fun j hj => ⟨by rw [row]; exact p5 j hj, fun z => by unfold pn at z; simp at z, fun _ => rfl⟩
    · exact fun j hj => ⟨by rw [row]; exact p7 j hj, fun z => by unfold pn at z; simp at z, fun _ => rfl⟩
    · exact fun j hj => ⟨by rw [row]; exact p9 j hj, fun z => by unfold pn at z; simp at z, fun _ => rfl⟩
  rw [lit0q, show (0 : Int) = ((0 : Nat) : Int) from rfl]
  have fin : ∀ (L : Nat) (w : MS) (U : Nat), 1 ≤ L → CLc u0 q h n ow kd P B W Y w 3 U U → OK (fun w _ => CLQc u q h n ow kd Fv P B W Y w) ((hg_Pr_clearHeap N L).1 w q (I (U : Int)) (I ((3 + 1 : Nat) : Int))) := by
    intro L w U hL c
    cases L with
    | zero => omega
    | succ L =>
      show OK _ (hb_Pr_clearHeap_14 N (hg_Pr_clearHeap N L) w q (I (U : Int)) (I ((3 + 1 : Nat) : Int)))
      unfold hb_Pr_clearHeap_14
      rw [I_lit (n := 4)]
      refine k_le ⟨by decide, by decide⟩ ⟨by decide, by decide⟩ (fun _ => ?_) (fun y => absurd y (by decide))
      refine ok_lt.mpr (ok_lt.mpr (ok_some.mpr ?_))
      rw [wi_e]
      obtain ⟨src, bs, f, c1, c2, c3, r0, r1, r2, r3⟩ := c
      have hUn := CNT_le c3
      rw [if_pos rfl] at c1
      obtain ⟨G1, -⟩ := CPc_hp (owd := fun _ => 0) (kdd := fun _ => 0) (d0 := w.2.2.2 (pq q 3)) g hF c1 HP_0 (fun _ _ => rfl)
      have f1 : FR [pq q 4] [] [] [pq q 2, pq q 3, pq q 33, pq q 35, pq q 6] u0 (wi (swp w q) (pq q 4) (U : Int)) := FR.wi (FR_upJ (FR_upJ (FR.mo f (by simp) (by simp) (by simp) (by simp)) (by simp)) (by simp)) (by simp)
      have fu : FR [pq q 4, pq q 5] [] [] [pq q 2, pq q 3, pq q 33, pq q 35, pq q 6] u (wi (swp w q) (pq q 4) (U : Int)) := FR.tr (FR.mo f0 (by simp) (by simp) (by simp) (by simp)) (FR.mo f1 (by simp) (by simp) (by simp) (by simp))
      have e2 : (wi (swp w q) (pq q 4) (U : Int)).2.2.2 (pq q 2) = w.2.2.2 (pq q 3) := swp_2
      have eo : ∀ a, a ≠ 2 → a ≠ 3 → (wi (swp w q) (pq q 4) (U : Int)).2.2.2 (pq q a) = w.2.2.2 (pq q a) := fun a h2 h3 => swp_ne ⟨pq_inj h2, pq_inj h3⟩
      have nI : ∀ a, a ≠ 4 → a ≠ 5 → F (wi (swp w q) (pq q 4) (U : Int)) (pq q a) = F u (pq q a) := fun a h1 h2 => FR.F fu (by simp; exact ⟨pq_inj h1, pq_inj h2⟩)
      have sm : ∀ {r0 row : Nat → Int64} {c : Nat}, ROWc n ow kd P U src bs r0 row c c → ∀ i, i < c → SML h n ow kd (w.2.2.2 (pq q 3)) U (owN 0 (fun _ => 0) bs) (kdN 0 (fun _ => 0) src) Fv P (r0 i) (row i) := fun {r0 row c} r i hi => by
        have hr := (r i hi).2.1 hi
        refine ⟨?_, ⟨fun z => ?_, fun k hk => RTO_so (RTO_tl c1 hr k hk)⟩, fun f s z => RTO_sz g hF c1 hr z⟩
        · rcases hr with y | y
          · rw [y.2]
          · exact y.2.1
        · rcases hr with y | y
          · exact y.2
          · exact absurd y.1 z
      have gtr : ∀ {r0 row : Nat → Int64} {c : Nat}, ROWc n ow kd P U src bs r0 row c c → ∀ i, i < c → GT U (owN 0 (fun _ => 0) bs) (kdN 0 (fun _ => 0) src) P (row i) := fun {r0 row c} r i hi => by
        obtain ⟨f, s, z⟩ := HP_szc g (r i hi).1
        exact SZ_gtc ((sm r i hi).2.2 f s z)
      have B1 : CLB (wi (swp w q) (pq q 4) (U : Int)) q B W Y := by
        obtain ⟨⟨l, a1, a2⟩, ⟨l2, b1, b2⟩, c⟩ := p10
        exact ⟨⟨l, by rw [nI 43 (by decide) (by decide)]; exact a1, a2⟩, ⟨l2, by rw [nI 45 (by decide) (by decide)]; exact b1, b2⟩, c⟩
      refine ⟨U, _, _, ⟨⟨by rw [F_wi (by omega) (by omega), if_pos rfl], by omega, by rw [e2]; exact G1⟩, ⟨by rw [nI 24 (by decide) (by decide)]; exact p4, ?_⟩, ⟨by rw [nI 26 (by decide) (by decide)]; exact p6, ?_⟩, ⟨by rw [nI 7 (by decide) (by decide)]; exact p8, ?_⟩, B1⟩, hUn, fu, ?_, ?_⟩
      · rw [eo 33 (by decide) (by decide)]; exact gtr r0
      · rw [eo 35 (by decide) (by decide)]; exact gtr r1
      · rw [eo 6 (by decide) (by decide)]; exact gtr r2
      · intro i hi
        rw [e2, eo 33 (by decide) (by decide), ← row 33]
        exact sm r0 i hi
      · intro i hi
        rw [e2, eo 35 (by decide) (by decide), ← row 35]
        exact sm r1 i hi
  have hP0 : ∀ t, P t → PT u t := hP
  have fI : ∀ (w : MS), FR [] [] [] [pq q 2, pq q 3, pq q 33, pq q 35, pq q 6] u0 w → w.1 (pq q 24) = I (B : Int) ∧ w.1 (pq q 26) = I (W : Int) ∧ w.1 (pq q 7) = I (Y : Int) := fun w f => by
    have h5 : ∀ a, a ≠ 5 → F w (pq q a) = F u (pq q a) := fun a ha => by rw [FR.F f (by simp), FR.F f0 (pn5 a ha)]
    exact ⟨by rw [I_F, h5 24 (by decide), p4], by rw [I_F, h5 26 (by decide), p6], by rw [I_F, h5 7 (by decide), p8]⟩
  have go3 : ∀ (L : Nat) (w : MS) (U : Nat), 520 ≤ L → CLc u0 q h n ow kd P B W Y w 2 Y U → OK (fun w _ => CLQc u q h n ow kd Fv P B W Y w) ((hg_Pr_clearHeap N L).1 w q (I (U : Int)) (I ((2 + 1 : Nat) : Int))) := by
    intro L w U hL c
    cases L with
    | zero => omega
    | succ L =>
      show OK _ (hb_Pr_clearHeap_14 N (hg_Pr_clearHeap N L) w q (I (U : Int)) (I ((2 + 1 : Nat) : Int)))
      unfold hb_Pr_clearHeap_14 hb_Pr_clearHeap_64 hb_Pr_clearHeap_107
      refine ok_br.mpr ⟨fun y => absurd y (by decide), fun _ => ok_br.mpr ⟨fun y => absurd y (by decide), fun _ => ok_br.mpr ⟨fun y => absurd y (by decide), fun _ => ok_br.mpr ⟨fun y => absurd y (by decide), fun _ => ok_br.mpr ⟨fun y => absurd y (by decide), fun _ => ok_br.mpr ⟨fun y => absurd y (by decide), fun _ => ok_br.mpr ⟨fun y => absurd y (by decide), fun _ => ?_⟩⟩⟩⟩⟩⟩⟩
      rw [lit0q]
      obtain ⟨src, bs, f, c1, c2, c3, r0, r1, r2, r3⟩ := c
      exact clear_in (k := 3) (L := 1) (fx := 0) (by decide) g p2 hF hP0 B0 (fun z => absurd rfl z) ⟨by decide, by decide⟩ (fun L2 w2 U2 hL2 c4 => fin L2 w2 U2 hL2 c4) L 0 w U (by show 1 + (512 - 0) + 1 ≤ L; omega) (Nat.zero_le _) ⟨src, bs, f, c1, c2, c3, r0, r1, r2, fun _ => Nat.zero_le _⟩
  have go2 : ∀ (L : Nat) (w : MS) (U : Nat), 522 + Y ≤ L → CLc u0 q h n ow kd P B W Y w 1 W U → OK (fun w _ => CLQc u q h n ow kd Fv P B W Y w) ((hg_Pr_clearHeap N L).1 w q (I (U : Int)) (I ((1 + 1 : Nat) : Int))) := by
    intro L w U hL c
    cases L with
    | zero => omega
    | succ L =>
      show OK _ (hb_Pr_clearHeap_14 N (hg_Pr_clearHeap N L) w q (I (U : Int)) (I ((1 + 1 : Nat) : Int)))
      unfold hb_Pr_clearHeap_14 hb_Pr_clearHeap_64 hb_Pr_clearHeap_107
      refine ok_br.mpr ⟨fun y => absurd y (by decide), fun _ => ok_br.mpr ⟨fun y => absurd y (by decide), fun _ => ok_br.mpr ⟨fun y => absurd y (by decide), fun _ => ok_br.mpr ⟨fun _ => ok_br.mpr ⟨fun y => absurd y (by decide), fun _ => ok_br.mpr ⟨fun y => absurd y (by decide), fun _ => ok_br.mpr ⟨fun _ => ?_, fun y => absurd y (by decide)⟩⟩⟩, fun y => absurd y (by decide)⟩⟩⟩⟩
      obtain ⟨src, bs, f, c1, c2, c3, r0, r1, r2, r3⟩ := c
      rw [lit0q, (fI w f).2.2]
      exact clear_in (k := 2) (L := 520) (fx := (Y : Int)) (by decide) g p2 hF hP0 B0 (fun _ => rfl) ⟨by omega, by omega⟩ (fun L2 w2 U2 hL2 c4 => go3 L2 w2 U2 hL2 c4) L 0 w U (by show 520 + (Y - 0) + 1 ≤ L; omega) (Nat.zero_le _) ⟨src, bs, f, c1, c2, c3, r0, r1, r2, fun z => (by cases z)⟩
  have go1 : ∀ (L : Nat) (w : MS) (U : Nat), 524 + Y + W ≤ L → CLc u0 q h n ow kd P B W Y w 0 B U → OK (fun w _ => CLQc u q h n ow kd Fv P B W Y w) ((hg_Pr_clearHeap N L).1 w q (I (U : Int)) (I ((0 + 1 : Nat) : Int))) := by
    intro L w U hL c
    cases L with
    | zero => omega
    | succ L =>
      show OK _ (hb_Pr_clearHeap_14 N (hg_Pr_clearHeap N L) w q (I (U : Int)) (I ((0 + 1 : Nat) : Int)))
      unfold hb_Pr_clearHeap_14 hb_Pr_clearHeap_64 hb_Pr_clearHeap_107
      refine ok_br.mpr ⟨fun y => absurd y (by decide), fun _ => ok_br.mpr ⟨fun y => absurd y (by decide), fun _ => ok_br.mpr ⟨fun _ => ok_br.mpr ⟨fun y => absurd y (by decide), fun _ => ok_br.mpr ⟨fun _ => ?_, fun y => absurd y (by decide)⟩⟩, fun y => absurd y (by decide)⟩⟩⟩
      obtain ⟨src, bs, f, c1, c2, c3, r0, r1, r2, r3⟩ := c
      rw [lit0q, (fI w f).2.1]
      exact clear_in (k := 1) (L := 522 + Y) (fx := (W : Int)) (by decide) g p2 hF hP0 B0 (fun _ => rfl) ⟨by omega, by omega⟩ (fun L2 w2 U2 hL2 c4 => go2 L2 w2 U2 hL2 c4) L 0 w U (by show 522 + Y + (W - 0) + 1 ≤ L; omega) (Nat.zero_le _) ⟨src, bs, f, c1, c2, c3, r0, r1, r2, fun z => (by cases z)⟩
  cases N with
  | zero => omega
  | succ M =>
    show OK _ (hb_Pr_clearHeap_14 (M + 1) (hg_Pr_clearHeap (M + 1) M) u0 q (I ((0 : Nat) : Int)) (I ((0 : Nat) : Int)))
    unfold hb_Pr_clearHeap_14 hb_Pr_clearHeap_64 hb_Pr_clearHeap_107
    refine ok_br.mpr ⟨fun y => absurd y (by decide), fun _ => ok_br.mpr ⟨fun _ => ok_br.mpr ⟨fun _ => ?_, fun y => absurd y (by decide)⟩, fun y => absurd y (by decide)⟩⟩
    rw [lit0q, (fI u0 FR.rf).1]
    exact clear_in (k := 0) (L := 524 + Y + W) (fx := (B : Int)) (by decide) g p2 hF hP0 B0 (fun _ => rfl) ⟨by omega, by omega⟩ (fun L2 w2 U2 hL2 c4 => go1 L2 w2 U2 hL2 c4) M 0 u0 0 (by show 524 + Y + W + (B - 0) + 1 ≤ M; omega) (Nat.zero_le _) st
end
