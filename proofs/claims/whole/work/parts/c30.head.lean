/-! heads of messages, both sides -/
set_option maxRecDepth 100000
/-- cells written one behind another -/
def wrL (K : Nat) : List Int64 → Nat → MS → MS
  | [], _, m => m
  | x :: L, i, m => wrL K L (i + 1) (wj m K i x)
section
variable {K : Nat}
theorem wrL_1 : ∀ (L : List Int64) (i : Nat) (m : MS), (wrL K L i m).1 = m.1 ∧ (wrL K L i m).2.1 = m.2.1 ∧ (wrL K L i m).2.2.1 = m.2.2.1
  | [], _, _ => ⟨rfl, rfl, rfl⟩
  | x :: L, i, m => wrL_1 L (i + 1) (wj m K i x)
theorem wrL_o : ∀ (L : List Int64) (i : Nat) (m : MS) {k : Nat}, k ≠ K → (wrL K L i m).2.2.2 k = m.2.2.2 k
  | [], _, _, _, _ => rfl
  | x :: L, i, m, _, h => (wrL_o L (i + 1) (wj m K i x) h).trans (if_neg h)
theorem wrL_n : ∀ (L : List Int64) (i : Nat) (m : MS) (j : Nat), ¬ (i ≤ j ∧ j < i + L.length) → (wrL K L i m).2.2.2 K j = m.2.2.2 K j
  | [], _, _, _, _ => rfl
  | x :: L, i, m, j, h => by
    have hl : (x :: L).length = L.length + 1 := rfl
    rw [hl] at h
    show (wrL K L (i + 1) (wj m K i x)).2.2.2 K j = _
    rw [wrL_n L (i + 1) (wj m K i x) j (by omega), wj_row, if_neg (by omega)]
theorem wrL_c : ∀ (L : List Int64) (i : Nat) (m : MS) (j : Nat) (x : Int64), L[j]? = some x → (wrL K L i m).2.2.2 K (i + j) = x
  | [], _, _, _, _, h => by simp at h
  | y :: L, i, m, 0, x, h => by
    have e : y = x := by simpa using h
    show (wrL K L (i + 1) (wj m K i y)).2.2.2 K (i + 0) = x
    rw [wrL_n L (i + 1) _ _ (by omega), wj_row, if_pos (Nat.add_zero i)]
    exact e
  | y :: L, i, m, j + 1, x, h => by
    have := wrL_c L (i + 1) (wj m K i y) j x (by simpa using h)
    rw [show i + 1 + j = i + (j + 1) by omega] at this
    exact this
end
section
variable {b b2 : Int → Nat → Nat → Prop} {N n q U B W Y a s : Nat} {m w m1 w1 m2 w2 : MS} {t x r r2 : Int64} {v3 v4 wr : Int} {o : Nat} {Q : MS → Unit → MS → Unit → Prop} {L : List Int64}
theorem hd4_l {D : Option (MS × Unit)} (hY : F m (pq q 7) = ((Y : Nat) : Int)) (h30 : Y < 30) (hU : U < 1000000) (k : PP Q (some (coS (wrL (pq q 2) [mk 8 3, mk 1 8, mk 4 v3, r] U m) q Y (mk 5 ((U : Nat) : Int)), ())) D) : PP Q (hb_Wl_post_120 N () m q (I ((4 : Nat) : Int)) (I v3) (I v4) (I ((U : Nat) : Int)) r) D := by
  have ea : I ((U : Nat) : Int) + I ((4 : Nat) : Int) - 2 = I ((U + 2 : Nat) : Int) := by rw [show (2 : Int32) = I 2 from rfl, I_add, I_sub]; congr 1; omega
  have eb : I ((U : Nat) : Int) + I ((4 : Nat) : Int) - 1 = I ((U + 3 : Nat) : Int) := by rw [lit1, I_add, I_sub]; congr 1; omega
  unfold hb_Wl_post_120
  rw [show decide (I ((4 : Nat) : Int) = 0) = false from rfl, br_f, show I ((4 : Nat) : Int) - 1 = I 3 from rfl, show (8 : Int32) = I 8 from rfl, e_make, bnd_so]
  refine l_ck (fun _ => l_lt ?_)
  rw [tnI (n := U) rfl (by omega), wj_e, show decide (I ((4 : Nat) : Int) = 4) = true from rfl, br_t]
  unfold hb_Wl_post_169
  rw [show I ((U : Nat) : Int) + 1 = I ((U + 1 : Nat) : Int) from addN, lit1, e_make, bnd_so]
  refine l_ck (fun _ => l_lt ?_)
  rw [tnI (n := U + 1) rfl (by omega), wj_e, show decide (I ((4 : Nat) : Int) = 5) = false from rfl, br_f]
  unfold hb_Wl_post_193
  rw [ea, eb, show (4 : Int32) = I 4 from rfl, e_make, bnd_so]
  refine l_ck (fun _ => l_lt ?_)
  rw [tnI (n := U + 2) rfl (by omega), wj_e]
  refine l_ck (fun _ => l_lt ?_)
  rw [tnI (n := U + 3) rfl (by omega), wj_e, show (5 : Int32) = I 5 from rfl, e_make, bnd_so, comes_e (Y := Y) (show F (wj (wj (wj (wj m (pq q 2) U (mk 8 3)) (pq q 2) (U + 1) (mk 1 8)) (pq q 2) (U + 2) (mk 4 v3)) (pq q 2) (U + 3) r) (pq q 7) = ((Y : Nat) : Int) from hY) h30, bnd_so]
  exact k
theorem hd5_l {D : Option (MS × Unit)} (hY : F m (pq q 7) = ((Y : Nat) : Int)) (h30 : Y < 30) (hU : U < 1000000) (k : PP Q (some (coS (wrL (pq q 2) [mk 8 4, mk 1 9, mk 2 v4, mk 4 v3, r] U m) q Y (mk 5 ((U : Nat) : Int)), ())) D) : PP Q (hb_Wl_post_120 N () m q (I ((5 : Nat) : Int)) (I v3) (I v4) (I ((U : Nat) : Int)) r) D := by
  have ea : I ((U : Nat) : Int) + I ((5 : Nat) : Int) - 2 = I ((U + 3 : Nat) : Int) := by rw [show (2 : Int32) = I 2 from rfl, I_add, I_sub]; congr 1; omega
  have eb : I ((U : Nat) : Int) + I ((5 : Nat) : Int) - 1 = I ((U + 4 : Nat) : Int) := by rw [lit1, I_add, I_sub]; congr 1; omega
  unfold hb_Wl_post_120
  rw [show decide (I ((5 : Nat) : Int) = 0) = false from rfl, br_f, show I ((5 : Nat) : Int) - 1 = I 4 from rfl, show (8 : Int32) = I 8 from rfl, e_make, bnd_so]
  refine l_ck (fun _ => l_lt ?_)
  rw [tnI (n := U) rfl (by omega), wj_e, show decide (I ((5 : Nat) : Int) = 4) = false from rfl, br_f]
  unfold hb_Wl_post_169
  rw [show I ((U : Nat) : Int) + 1 = I ((U + 1 : Nat) : Int) from addN, lit1, show (9 : Int32) = I 9 from rfl, e_make, bnd_so]
  refine l_ck (fun _ => l_lt ?_)
  rw [tnI (n := U + 1) rfl (by omega), wj_e, show decide (I ((5 : Nat) : Int) = 5) = true from rfl, br_t, show I ((U : Nat) : Int) + 2 = I ((U + 2 : Nat) : Int) from addN, show (2 : Int32) = I 2 from rfl, e_make, bnd_so]
  refine l_ck (fun _ => l_lt ?_)
  rw [tnI (n := U + 2) rfl (by omega), wj_e]
  unfold hb_Wl_post_193
  rw [ea, eb, show (4 : Int32) = I 4 from rfl, e_make, bnd_so]
  refine l_ck (fun _ => l_lt ?_)
  rw [tnI (n := U + 3) rfl (by omega), wj_e]
  refine l_ck (fun _ => l_lt ?_)
  rw [tnI (n := U + 4) rfl (by omega), wj_e, show (5 : Int32) = I 5 from rfl, e_make, bnd_so, comes_e (Y := Y) (show F (wj (wj (wj (wj (wj m (pq q 2) U (mk 8 4)) (pq q 2) (U + 1) (mk 1 9)) (pq q 2) (U + 2) (mk 2 v4)) (pq q 2) (U + 3) (mk 4 v3)) (pq q 2) (U + 4) r) (pq q 7) = ((Y : Nat) : Int) from hY) h30, bnd_so]
  exact k
theorem tn88 (hq : q < 25) (hU : U < 1000) : (I ((q : Nat) : Int) * 500 + I ((U : Nat) : Int)).toNatClampNeg = 500 * q + U := by
  rw [lit500, I_mul, I_add]
  exact tnI (n := 500 * q + U) (by omega) (by omega)
theorem tn88s {z : Int} {k : Nat} (hz : z = ((k : Nat) : Int)) (hq : q < 25) (hU : U + k < 1000) : (I ((q : Nat) : Int) * 500 + I ((U : Nat) : Int) + I z).toNatClampNeg = 500 * q + (U + k) := by
  rw [lit500, I_mul, I_add, I_add]
  exact tnI (n := 500 * q + (U + k)) (by omega) (by omega)
theorem tn88m {z : Int} {k : Nat} (hz : z = ((k + 1 : Nat) : Int)) (hq : q < 25) (hU : U + k < 1000) : (I ((q : Nat) : Int) * 500 + I ((U : Nat) : Int) + I z - 1).toNatClampNeg = 500 * q + (U + k) := by
  rw [lit500, lit1, I_mul, I_add, I_add, I_sub]
  exact tnI (n := 500 * q + (U + k)) (by omega) (by omega)
theorem hd4_r {D : Option (MS × Unit)} (hq : q < 24) (hu : A w 89 q = ((U : Nat) : Int)) (hU : U < 500) (k : PP Q D (fb_M_message_261 N () (wrL 88 [(I 3).toInt64, mk 1 8, mk 4 v3] (500 * q + U) (wa w 89 q ((U + 4 : Nat) : Int))) (I q) (I wr) (I o) x (mk 5 ((U : Nat) : Int)) (I ((U + 3 : Nat) : Int)))) : PP Q D (fb_M_message_136 N () w (I q) (I ((0 : Nat) : Int)) (I v4) (I v3) (I wr) (I o) x (I ((U : Nat) : Int)) 3) := by
  unfold fb_M_message_136
  rw [show (3 : Int32) = I 3 from rfl]
  refine r_ck (fun _ => r_ck (fun _ => r_lt ?_))
  rw [tnI (n := q) rfl (by omega), I_A' hu, show I ((U : Nat) : Int) + (I 3 + 1) = I ((U + 4 : Nat) : Int) from addN (b := 4), wa_e]
  refine r_ck (fun _ => r_lt ?_)
  rw [tn88 (by omega) (by omega), wj_e, show decide (I ((0 : Nat) : Int) = 0) = true from rfl, br_t]
  unfold fb_M_message_193
  rw [lit1, show (8 : Int32) = I 8 from rfl, term_e, bnd_so, isK_88, ck_t]
  refine r_ck (fun _ => r_lt ?_)
  rw [tn88s (z := 1) (k := 1) rfl (by omega) (by omega), wj_e, show decide (I ((0 : Nat) : Int) = I 1) = false from rfl, br_f]
  unfold fb_M_message_222
  rw [show (4 : Int32) = I 4 from rfl, term_e, bnd_so]
  refine r_ck (fun _ => r_lt ?_)
  rw [tn88m (z := 3) (k := 2) rfl (by omega) (by omega), wj_e, show (5 : Int32) = I 5 from rfl, term_e, bnd_so, show I ((U : Nat) : Int) + I 3 = I ((U + 3 : Nat) : Int) from addN]
  exact k
theorem hd5_r {D : Option (MS × Unit)} (hq : q < 24) (hu : A w 89 q = ((U : Nat) : Int)) (hU : U < 500) (k : PP Q D (fb_M_message_261 N () (wrL 88 [(I 4).toInt64, mk 1 9, mk 2 v4, mk 4 v3] (500 * q + U) (wa w 89 q ((U + 5 : Nat) : Int))) (I q) (I wr) (I o) x (mk 5 ((U : Nat) : Int)) (I ((U + 4 : Nat) : Int)))) : PP Q D (fb_M_message_136 N () w (I q) (I ((1 : Nat) : Int)) (I v4) (I v3) (I wr) (I o) x (I ((U : Nat) : Int)) 4) := by
  unfold fb_M_message_136
  rw [show (4 : Int32) = I 4 from rfl]
  refine r_ck (fun _ => r_ck (fun _ => r_lt ?_))
  rw [tnI (n := q) rfl (by omega), I_A' hu, show I ((U : Nat) : Int) + (I 4 + 1) = I ((U + 5 : Nat) : Int) from addN (b := 5), wa_e]
  refine r_ck (fun _ => r_lt ?_)
  rw [tn88 (by omega) (by omega), wj_e, show decide (I ((1 : Nat) : Int) = 0) = false from rfl, br_f]
  unfold fb_M_message_193
  rw [lit1, show (9 : Int32) = I 9 from rfl, term_e, bnd_so, isK_88, ck_t]
  refine r_ck (fun _ => r_lt ?_)
  rw [tn88s (z := 1) (k := 1) rfl (by omega) (by omega), wj_e, show decide (I ((1 : Nat) : Int) = I 1) = true from rfl, br_t, show (2 : Int32) = I 2 from rfl, term_e, bnd_so]
  refine r_ck (fun _ => r_lt ?_)
  rw [tn88s (z := 2) (k := 2) rfl (by omega) (by omega), wj_e]
  unfold fb_M_message_222
  rw [show (4 : Int32) = I 4 from rfl, term_e, bnd_so]
  refine r_ck (fun _ => r_lt ?_)
  rw [tn88m (z := 4) (k := 3) rfl (by omega) (by omega), wj_e, show (5 : Int32) = I 5 from rfl, term_e, bnd_so, show I ((U : Nat) : Int) + I 4 = I ((U + 4 : Nat) : Int) from addN]
  exact k
/-- new cells: all that a process has goes together as before -/
theorem PLs_new (p : PLs b q m w U B W Y) (mo : ∀ k a c, b k a c → b2 k a c) (h1 : ∀ k, k ∈ [5, 24, 26, 7] → m2.1 (pq q k) = m.1 (pq q k)) (h3 : ∀ k, k ∈ [33, 35, 6] → m2.2.2.2 (pq q k) = m.2.2.2 (pq q k)) (k1 : ∀ k, k ∈ [90, 92, 94, 108] → w2.2.2.1 k q = w.2.2.1 k q) (k3 : ∀ k, k ∈ [93, 91, 107] → w2.2.2.2 k = w.2.2.2 k) (u1 : F m2 (pq q 4) = ((n : Nat) : Int)) (u2 : A w2 89 q = ((n : Nat) : Int)) (u3 : n ≤ 500) (is : ISb b2 (m2.2.2.2 (pq q 2)) n (hp w2 q) n) : PLs b2 q m2 w2 n B W Y := by
  obtain ⟨⟨⟨p1, p2, p3⟩, p4, p5⟩, ⟨p6, p7, p8⟩, ⟨p9, p10, p11⟩, p12, p13, p14⟩ := p
  have fm : ∀ k, k ∈ [5, 24, 26, 7] → F m2 (pq q k) = F m (pq q k) := fun k hk => congrArg Int32.toInt (h1 k hk)
  have aw : ∀ k, k ∈ [90, 92, 94, 108] → A w2 k q = A w k q := fun k hk => congrArg Int32.toInt (k1 k hk)
  exact ⟨⟨⟨u1, u2, u3⟩, is, by rw [h1 5 (by simp), k1 90 (by simp)]; exact p5⟩, ⟨by rw [fm 24 (by simp)]; exact p6, by rw [aw 94 (by simp)]; exact p7, fun i hi => by rw [h3 33 (by simp), k3 93 (by simp)]; exact RTb_mo mo (p8 i hi)⟩, ⟨by rw [fm 26 (by simp)]; exact p9, by rw [aw 92 (by simp)]; exact p10, fun i hi => by rw [h3 35 (by simp), k3 91 (by simp)]; exact RTb_mo mo (p11 i hi)⟩, by rw [fm 7 (by simp)]; exact p12, by rw [aw 108 (by simp)]; exact p13, fun i hi => by rw [h3 6 (by simp), k3 107 (by simp)]; exact RTb_mo mo (p14 i hi)⟩
/-- behind the copying, all but the message itself -/
theorem INs_pl (pl : PLs b q m w U B W Y) (f1 : FR [pq q 4] [] [] [] m m1) (g1 : FR [] [] [89] [88] w w1) (hin : INs b q (U + a) s m1 w1 m2 r w2 r2) {m3 w3 : MS} (e1 : m3.1 = m2.1) (e2 : ∀ k, k ≠ pq q 2 → m3.2.2.2 k = m2.2.2.2 k) (e3 : w3.2.2.1 = w2.2.2.1) (e4 : ∀ k, k ≠ 88 → w3.2.2.2 k = w2.2.2.2 k) (mo : ∀ k a c, b k a c → b2 k a c) (hl : U + a + s ≤ 500) (is : ISb b2 (m3.2.2.2 (pq q 2)) (U + a + s) (hp w3 q) (U + a + s)) : PLs b2 q m3 w3 (U + a + s) B W Y := by
  obtain ⟨-, ⟨q5, q6, -⟩, q8, q9, -⟩ := hin
  have n4 : ∀ k, k ∈ [5, 24, 26, 7] → pq q k ∉ [pq q 4] := fun k hk => by
    simp only [List.mem_cons, List.not_mem_nil, or_false]
    exact pq_inj (by intro e; subst e; simp at hk)
  have n2 : ∀ k, k ∈ [33, 35, 6] → pq q k ≠ pq q 2 := fun k hk => pq_inj (by intro e; subst e; simp at hk)
  refine PLs_new pl mo (fun k hk => by rw [e1, q5.1 _ (n4 k hk), f1.1 _ (n4 k hk)]) (fun k hk => by rw [e2 _ (n2 k hk), q5.2.2.2 _ (by simpa using n2 k hk), f1.2.2.2 _ (by simp)]) (fun k hk => ?_) (fun k hk => ?_) (by show (m3.1 (pq q 4)).toInt = _; rw [e1]; exact q6) (by show (w3.2.2.1 89 q).toInt = _; rw [e3]; have := q9 q; rw [if_pos rfl] at this; exact this) hl is
  · rw [e3, q8.2.2.1 k (by simp at hk ⊢; omega), g1.2.2.1 k (by simp at hk ⊢; omega)]
  · rw [e4 k (by simp at hk; omega), q8.2.2.2 k (by simp at hk ⊢; omega), g1.2.2.2 k (by simp at hk ⊢; omega)]
/-- the head and the term behind it -/
theorem head_pl (pl : PLs b q m w U B W Y) (f1 : FR [pq q 4] [] [] [] m m1) (g1 : FR [] [] [89] [88] w w1) (hin : INs b q (U + a) s m1 w1 m2 r w2 r2) (hl : U + a + s ≤ 500) (ha : 2 ≤ a) (hL : L.length = a - 1) {y0 : Int64} (x0 : L[0]? = some y0 ∧ vn y0 = a - 1) (x0' : vn (hp w1 q U) = a - 1) (xs : ∀ j, 1 ≤ j → j < a - 1 → ∃ y, L[j]? = some y ∧ hp w1 q (U + j) = y ∧ ¬ isH y ∧ so y ≠ 6) : ∃ b3, PLs b3 q (wrL (pq q 2) (L ++ [r]) U m2) (wj w2 88 (500 * q + (U + (a - 1))) r2) (U + a + s) B W Y ∧ RTb b3 (mk 5 ((U : Nat) : Int)) (mk 5 ((U : Nat) : Int)) := by
  have hin0 := hin
  obtain ⟨⟨b2, q1, q2, q3, q4⟩, ⟨q5, q6, q7⟩, q8, q9, q10⟩ := hin
  have sD : ISb b (m.2.2.2 (pq q 2)) U (hp w q) U := pl.1.2.1
  have hd : ∀ i, i < U → m2.2.2.2 (pq q 2) i = m.2.2.2 (pq q 2) i := fun i hi => by rw [q7 i (by omega), f1.2.2.2 _ (by simp)]
  have ll : (L ++ [r]).length = a := by rw [List.length_append, hL]; show a - 1 + 1 = a; omega
  have n1 : ∀ i, ¬ (U ≤ i ∧ i < U + a) → (wrL (pq q 2) (L ++ [r]) U m2).2.2.2 (pq q 2) i = m2.2.2.2 (pq q 2) i := fun i hi => wrL_n _ _ _ _ (by rw [ll]; exact hi)
  have c2 : ∀ i, hp (wj w2 88 (500 * q + (U + (a - 1))) r2) q i = if i = U + (a - 1) then r2 else hp w2 q i := fun i => hp_wj
  have c3 : ∀ i, i < U + a → hp w2 q i = hp w1 q i := fun i hi => q10 (500 * q + i) (by omega)
  have g0 : (wrL (pq q 2) (L ++ [r]) U m2).2.2.2 (pq q 2) U = y0 := wrL_c (L ++ [r]) U m2 0 y0 (by rw [List.getElem?_append_left (by omega)]; exact x0.1)
  have e5 : so (mk 5 ((U : Nat) : Int)) = 5 := so_mk (by omega) (by omega)
  have v5 := mk_v (k := 5) (a := U) (by omega)
  have bl : blk ((wrL (pq q 2) (L ++ [r]) U m2).2.2.2 (pq q 2)) (mk 5 ((U : Nat) : Int)) = a := by
    unfold blk
    rw [e5, v5.2, g0, x0.2]
    show 1 + (a - 1) = a
    omega
  have bl' : blk (hp (wj w2 88 (500 * q + (U + (a - 1))) r2) q) (mk 5 ((U : Nat) : Int)) = a := by
    unfold blk
    rw [e5, v5.2, c2, if_neg (by omega), if_pos rfl, if_neg (by omega), c3 U (by omega), x0']
    show 1 + (a - 1) = a
    omega
  obtain ⟨t1, t2⟩ := ISb_hole (h2 := (wrL (pq q 2) (L ++ [r]) U m2).2.2.2 (pq q 2)) (h2' := hp (wj w2 88 (500 * q + (U + (a - 1))) r2) q) (a0 := U) (c0 := U) (m := a) (t := mk 5 ((U : Nat) : Int)) (x := mk 5 ((U : Nat) : Int)) q3 (hole_z sD q2 hd) (Or.inr (Or.inl e5)) rfl ⟨by rw [v5.1]; omega, by rw [v5.1]; omega⟩ v5.2 v5.2 bl bl' ⟨by omega, by omega⟩ ⟨by omega, by omega⟩ n1 (fun i hi => by rw [c2, if_neg (by omega)]) (fun j hj1 hj2 => by
    have : prt (mk 5 ((U : Nat) : Int)) = 1 := by unfold prt; rw [e5]; rfl
    by_cases e : j = a - 1
    · subst e
      rw [wrL_c (L ++ [r]) U m2 (a - 1) r (by rw [List.getElem?_append_right (by omega), hL, Nat.sub_self]; rfl), c2, if_pos rfl]
      exact q4
    · obtain ⟨y, y1, y2, y3, y4⟩ := xs j (by omega) (by omega)
      rw [wrL_c (L ++ [r]) U m2 j y (by rw [List.getElem?_append_left (by omega)]; exact y1), c2, if_neg (by omega), c3 _ (by omega), y2]
      exact RTb_lit y3 (fun e => absurd e y4)) (by rw [e5]; omega)
  exact ⟨_, INs_pl pl f1 g1 hin0 (wrL_1 _ _ _).1 (fun k hk => wrL_o _ _ _ hk) rfl (fun k hk => if_neg hk) (fun k a c y => Or.inl (q1 k a c y)) hl t1, t2⟩
end
