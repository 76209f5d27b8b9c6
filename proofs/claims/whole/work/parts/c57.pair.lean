/-! a new TUPLE, both sides; a TUPLE of an ATOM and a term -/
set_option maxRecDepth 100000
section
variable {b b2 : Int → Nat → Nat → Prop} {N q U B W Y k : Nat} {m w m2 w2 : MS} {x t : Int64} {v : Int} {h h' h2 h2' : Nat → Int64}
theorem tup_iso {L L' : List Int64} (s : ISb b h U h' U) (hl : L.length = k) (hl' : L'.length = k) (rt : ∀ (i : Nat) (t x : Int64), L[i]? = some t → L'[i]? = some x → RTb b t x) (hU : U + (k + 1) ≤ 1000) (hd : vn (h2 U) = k) (hd' : vn (h2' U) = k) (cs : ∀ (i : Nat) (t : Int64), L[i]? = some t → h2 (U + 1 + i) = t) (cs' : ∀ (i : Nat) (t : Int64), L'[i]? = some t → h2' (U + 1 + i) = t) (hh : ∀ i, i < U → h2 i = h i) (hh' : ∀ i, i < U → h2' i = h' i) : ISb (fun k a c => b k a c ∨ (k = so (mk 5 ((U : Nat) : Int)) ∧ a = U ∧ c = U)) h2 (U + (k + 1)) h2' (U + (k + 1)) ∧ RTb (fun k a c => b k a c ∨ (k = so (mk 5 ((U : Nat) : Int)) ∧ a = U ∧ c = U)) (mk 5 ((U : Nat) : Int)) (mk 5 ((U : Nat) : Int)) := by
  have s5 : so (mk 5 ((U : Nat) : Int)) = 5 := so_mk (by omega) (by omega)
  have v5 : va (mk 5 ((U : Nat) : Int)) = ((U : Nat) : Int) := va_mk (by omega) (by omega)
  have n5 : vn (mk 5 ((U : Nat) : Int)) = U := by unfold vn; rw [v5]; omega
  have pr : prt (mk 5 ((U : Nat) : Int)) = 1 := by unfold prt; rw [s5, if_neg (by omega), if_pos rfl]
  refine ISb_new (m := k + 1) s (isH_mk (by omega)) rfl ⟨by rw [v5]; omega, by rw [v5]; omega⟩ n5 n5 ?_ ?_ ⟨by omega, by omega⟩ hh hh' (fun j h1 h3 => ?_) (fun e => ?_)
  · unfold blk; rw [s5, if_neg (by omega), if_pos rfl, n5, hd]; omega
  · unfold blk; rw [s5, if_neg (by omega), if_pos rfl, n5, hd']; omega
  · rw [pr] at h1
    have i1 : j - 1 < L.length := by omega
    have i2 : j - 1 < L'.length := by omega
    have c1 := cs (j - 1) _ (List.getElem?_eq_getElem i1)
    have c2 := cs' (j - 1) _ (List.getElem?_eq_getElem i2)
    rw [show U + j = U + 1 + (j - 1) by omega, c1, c2]
    exact rt (j - 1) _ _ (List.getElem?_eq_getElem i1) (List.getElem?_eq_getElem i2)
  · rw [s5] at e
    omega
theorem pair_m (hU : F m (pq q 4) = ((U : Nat) : Int)) (h5 : U + 3 ≤ 512) : PK (fun m2 r => m2 = wi (wj (wj (wj m (pq q 2) U (mk 8 2)) (pq q 2) (U + 1) (mk 1 v)) (pq q 2) (U + 2) t) (pq q 4) ((U + 3 : Nat) : Int) ∧ r = mk 5 ((U : Nat) : Int)) (hm_Pr_pair N m q (I v) t) := by
  unfold hm_Pr_pair hb_Pr_pair_0
  rw [I_F' hU, show I ((U : Nat) : Int) + 3 = I ((U + 3 : Nat) : Int) from addN, show (512 : Int32) = I 512 from rfl, decI (by omega) (by omega) (by omega) (by omega), decide_eq_true (by omega), br_t, show (8 : Int32) = I 8 from rfl, show (2 : Int32) = I 2 from rfl, e_make, bnd_so]
  refine pk_ck (fun _ => pk_lt ?_)
  rw [tnI (n := U) rfl (by omega), wj_e, show (1 : Int32) = I 1 from rfl, e_make, bnd_so]
  refine pk_ck (fun _ => pk_lt ?_)
  rw [show I ((U : Nat) : Int) + I 1 = I ((U + 1 : Nat) : Int) from addN, tnI (n := U + 1) rfl (by omega), wj_e]
  refine pk_ck (fun _ => pk_lt ?_)
  rw [show I ((U : Nat) : Int) + I 2 = I ((U + 2 : Nat) : Int) from addN, tnI (n := U + 2) rfl (by omega), wj_e]
  have g4 : F (wj (wj (wj m (pq q 2) U (mk 8 2)) (pq q 2) (U + 1) (mk 1 v)) (pq q 2) (U + 2) t) (pq q 4) = ((U : Nat) : Int) := hU
  rw [I_F' g4, show I ((U : Nat) : Int) + 3 = I ((U + 3 : Nat) : Int) from addN]
  refine pk_lt ?_
  rw [wi_e, show (5 : Int32) = I 5 from rfl, e_make, bnd_so]
  exact pk_some ⟨rfl, rfl⟩
theorem two_r (hq : q < 24) (h3 : F w 133 = ((q : Nat) : Int)) (hu : A w 89 q = ((U : Nat) : Int)) (h5 : U + 3 ≤ 500) : PK (fun w2 r => w2 = wa (wj (wj (wj w 88 (500 * q + U) 2) 88 (500 * q + (U + 1)) (mk 1 v)) 88 (500 * q + (U + 2)) x) 89 q ((U + 3 : Nat) : Int) ∧ r = mk 5 ((U : Nat) : Int)) (fm_M_two N w (I v) x) := by
  unfold fm_M_two fb_M_two_0
  rw [I_F' h3, tnI (n := q) rfl (by omega), I_A' hu]
  refine pk_ck (fun _ => pk_lt (pk_ck (fun _ => pk_lt ?_)))
  rw [tn88 (by omega) (by omega), wj_e, show (1 : Int32) = I 1 from rfl, term_e, bnd_so]
  refine pk_ck (fun _ => pk_lt ?_)
  rw [tn88s (z := 1) (k := 1) rfl (by omega) (by omega), wj_e]
  refine pk_ck (fun _ => pk_lt ?_)
  rw [show (2 : Int32) = I 2 from rfl, tn88s (z := 2) (k := 2) rfl (by omega) (by omega), wj_e]
  have g3 : F (wj (wj (wj w 88 (500 * q + U) 2) 88 (500 * q + (U + 1)) (mk 1 v)) 88 (500 * q + (U + 2)) x) 133 = ((q : Nat) : Int) := h3
  have g89 : A (wj (wj (wj w 88 (500 * q + U) 2) 88 (500 * q + (U + 1)) (mk 1 v)) 88 (500 * q + (U + 2)) x) 89 q = ((U : Nat) : Int) := hu
  rw [I_F' g3, tnI (n := q) rfl (by omega), I_A' g89, show I ((U : Nat) : Int) + 3 = I ((U + 3 : Nat) : Int) from addN]
  refine pk_ck (fun _ => pk_ck (fun _ => pk_lt ?_))
  rw [wa_e]
  have g3' : F (wa (wj (wj (wj w 88 (500 * q + U) 2) 88 (500 * q + (U + 1)) (mk 1 v)) 88 (500 * q + (U + 2)) x) 89 q ((U + 3 : Nat) : Int)) 133 = ((q : Nat) : Int) := h3
  have g89' : A (wa (wj (wj (wj w 88 (500 * q + U) 2) 88 (500 * q + (U + 1)) (mk 1 v)) 88 (500 * q + (U + 2)) x) 89 q ((U + 3 : Nat) : Int)) 89 q = ((U + 3 : Nat) : Int) := by rw [wa_sm (by omega) (by omega)]
  refine pk_ck (fun _ => ?_)
  rw [I_F' g3', tnI (n := q) rfl (by omega), I_A' g89', show I ((U + 3 : Nat) : Int) - 3 = I ((U : Nat) : Int) by rw [show (3 : Int32) = I 3 from rfl, I_sub]; congr 1; omega, show (5 : Int32) = I 5 from rfl, term_e, bnd_so]
  exact pk_some ⟨rfl, rfl⟩
/-- an ATOM and a term, both sides -/
theorem pair_pp (hq : q < 24) (h3 : F w 133 = ((q : Nat) : Int)) (hU : F m (pq q 4) = ((U : Nat) : Int)) (hu : A w 89 q = ((U : Nat) : Int)) (h5 : U + 3 ≤ 500) (is : ISb b (m.2.2.2 (pq q 2)) U (hp w q) U) (rt : RTb b t x) (hv : RG v) : PP (fun m2 t2 w2 x2 => ∃ b2, ISb b2 (m2.2.2.2 (pq q 2)) (U + 3) (hp w2 q) (U + 3) ∧ RTb b2 t2 x2 ∧ (∀ k a c, b k a c → b2 k a c) ∧ (F m2 (pq q 4) = ((U + 3 : Nat) : Int) ∧ A w2 89 q = ((U + 3 : Nat) : Int)) ∧ FR [pq q 4] [] [] [pq q 2] m m2 ∧ FR [] [] [89] [88] w w2 ∧ (∀ r, r ≠ q → A w2 89 r = A w 89 r) ∧ ∀ i, ¬ (500 * q ≤ i ∧ i < 500 * q + 500) → w2.2.2.2 88 i = w.2.2.2 88 i) (hm_Pr_pair N m q (I v) t) (fm_M_two N w (I v) x) := by
  intro m2 t2 w2 x2 e1 e2
  obtain ⟨rfl, rfl⟩ := pair_m (N := N) (v := v) (t := t) hU (by omega) _ _ e1
  obtain ⟨rfl, rfl⟩ := two_r (N := N) (v := v) (x := x) hq h3 hu h5 _ _ e2
  have ra : RTb b (mk 1 v) (mk 1 v) := RTb_lit (nh_mk (by omega)) (fun e => by rw [so_mk (by omega) (by omega)] at e; omega)
  have c8 : vn (mk 8 2) = 2 := by unfold vn; rw [va_mk (by omega) (by omega)]; rfl
  have cm : ∀ i, (wi (wj (wj (wj m (pq q 2) U (mk 8 2)) (pq q 2) (U + 1) (mk 1 v)) (pq q 2) (U + 2) t) (pq q 4) ((U + 3 : Nat) : Int)).2.2.2 (pq q 2) i = if i = U + 2 then t else if i = U + 1 then mk 1 v else if i = U then mk 8 2 else m.2.2.2 (pq q 2) i := fun i => by
    show (wj (wj (wj m (pq q 2) U (mk 8 2)) (pq q 2) (U + 1) (mk 1 v)) (pq q 2) (U + 2) t).2.2.2 (pq q 2) i = _
    rw [wj_row, wj_row, wj_row]
  have cw : ∀ i, hp (wa (wj (wj (wj w 88 (500 * q + U) 2) 88 (500 * q + (U + 1)) (mk 1 v)) 88 (500 * q + (U + 2)) x) 89 q ((U + 3 : Nat) : Int)) q i = if i = U + 2 then x else if i = U + 1 then mk 1 v else if i = U then 2 else hp w q i := fun i => by
    show (wj (wj (wj w 88 (500 * q + U) 2) 88 (500 * q + (U + 1)) (mk 1 v)) 88 (500 * q + (U + 2)) x).2.2.2 88 (500 * q + i) = _
    rw [wj_row, wj_row, wj_row]
    by_cases c1 : i = U + 2
    · rw [if_pos c1, if_pos (by omega)]
    · rw [if_neg c1, if_neg (by omega)]
      by_cases c2 : i = U + 1
      · rw [if_pos c2, if_pos (by omega)]
      · rw [if_neg c2, if_neg (by omega)]
        by_cases c3 : i = U
        · rw [if_pos c3, if_pos (by omega)]
        · rw [if_neg c3, if_neg (by omega)]
          rfl
  have ti := tup_iso (k := 2) (L := [mk 1 v, t]) (L' := [mk 1 v, x]) (h2 := (wi (wj (wj (wj m (pq q 2) U (mk 8 2)) (pq q 2) (U + 1) (mk 1 v)) (pq q 2) (U + 2) t) (pq q 4) ((U + 3 : Nat) : Int)).2.2.2 (pq q 2)) (h2' := hp (wa (wj (wj (wj w 88 (500 * q + U) 2) 88 (500 * q + (U + 1)) (mk 1 v)) 88 (500 * q + (U + 2)) x) 89 q ((U + 3 : Nat) : Int)) q) is rfl rfl (fun i t1 x1 g1 g2 => ?_) (by omega) (by rw [cm, if_neg (by omega), if_neg (by omega), if_pos rfl]; exact c8) (by rw [cw, if_neg (by omega), if_neg (by omega), if_pos rfl]; rfl) (fun i t1 g1 => ?_) (fun i t1 g1 => ?_) (fun i hi => by rw [cm, if_neg (by omega), if_neg (by omega), if_neg (by omega)]) (fun i hi => by rw [cw, if_neg (by omega), if_neg (by omega), if_neg (by omega)])
  · refine ⟨_, ti.1, ti.2, fun k a c z => Or.inl z, ⟨?_, ?_⟩, FR.wi (FR.wj (FR.wj (FR.wj FR.rf (by simp)) (by simp)) (by simp)) (by simp), FR.wa (FR.wj (FR.wj (FR.wj FR.rf (by simp)) (by simp)) (by simp)) (by simp), fun r hr => ?_, fun i hi => ?_⟩
    · rw [wi_sm (by omega) (by omega)]
    · rw [wa_sm (by omega) (by omega)]
    · rw [A_wa (by omega) (by omega), if_pos rfl, if_neg hr]
      rfl
    · show (wj (wj (wj w 88 (500 * q + U) 2) 88 (500 * q + (U + 1)) (mk 1 v)) 88 (500 * q + (U + 2)) x).2.2.2 88 i = _
      rw [wj_row, wj_row, wj_row, if_neg (by omega), if_neg (by omega), if_neg (by omega)]
  · match i, g1, g2 with
    | 0, g1, g2 =>
      have e1 : mk 1 v = t1 := by simpa using g1
      have e2 : mk 1 v = x1 := by simpa using g2
      rw [← e1, ← e2]; exact ra
    | 1, g1, g2 =>
      have e1 : t = t1 := by simpa using g1
      have e2 : x = x1 := by simpa using g2
      rw [← e1, ← e2]; exact rt
    | i + 2, g1, _ => simp at g1
  · match i, g1 with
    | 0, g1 =>
      have e1 : mk 1 v = t1 := by simpa using g1
      rw [cm, if_neg (by omega), if_pos (by omega)]; exact e1
    | 1, g1 =>
      have e1 : t = t1 := by simpa using g1
      rw [cm, if_pos (by omega)]; exact e1
    | i + 2, g1 => simp at g1
  · match i, g1 with
    | 0, g1 =>
      have e1 : mk 1 v = t1 := by simpa using g1
      rw [cw, if_neg (by omega), if_pos (by omega)]; exact e1
    | 1, g1 =>
      have e1 : x = t1 := by simpa using g1
      rw [cw, if_pos (by omega)]; exact e1
    | i + 2, g1 => simp at g1
end
