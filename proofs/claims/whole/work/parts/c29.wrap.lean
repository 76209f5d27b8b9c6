/-! a term that is told, wrapped or not: copied on both sides -/
set_option maxRecDepth 100000
/-- where a term lies that is told: there in the cells of j, here in those of o -/
def SRs (Fv : Int64 → Int64 → Prop) (P : Int64 → Prop) (Fv' : Int64 → Int64 → Prop) (P' : Int64 → Prop) (m w : MS) (q U : Nat) (src : Option Nat) (t : Int64) (wr : Int) (o : Nat) (x : Int64) (s : Nat) : Prop :=
  o < 25 ∧ ((src = none ∧ wr = 0 ∧ ¬ isH t ∧ x = t ∧ (so t = 6 → va t = 0) ∧ P' x ∧ s = 0) ∨
  ∃ (j : Nat) (bS : Int → Nat → Nat → Prop) (n : Nat) (ow kd : Nat → Nat) (f n' : Nat) (ow' kd' : Nat → Nat) (f' : Nat), src = some j ∧ (HPc (m.2.2.2 (pq j 2)) n ow kd Fv P ∧ n ≤ 512 ∧ (j = q → n ≤ U)) ∧ (HP (hp w o) n' ow' kd' Fv' P' ∧ n' ≤ 500 ∧ (o = q → n' ≤ U)) ∧ ISw bS (m.2.2.2 (pq j 2)) n (hp w o) n' ∧ SZc (m.2.2.2 (pq j 2)) n ow kd Fv P f t s ∧
    ((wr = 0 ∧ RTb bS t x ∧ SZ (hp w o) n' ow' kd' Fv' P' f' x s) ∨ (∃ z, (wr = 1 ∨ wr = 2) ∧ s = 3 + z ∧ so t = 5 ∧ blk (m.2.2.2 (pq j 2)) t = 3 ∧ m.2.2.2 (pq j 2) (vn t + 1) = mk 1 (if wr = 1 then 7 else 19) ∧ RTb bS (m.2.2.2 (pq j 2) (vn t + 2)) x ∧ SZ (hp w o) n' ow' kd' Fv' P' f' x z)))
/-- behind the copying: all that was goes together as before, the copies go together -/
def INs (bD : Int → Nat → Nat → Prop) (q s0 s : Nat) (m w m2 : MS) (r : Int64) (w2 : MS) (r2 : Int64) : Prop :=
  (∃ b2, (∀ k a c, bD k a c → b2 k a c) ∧ (∀ k a e, b2 k a e → bD k a e ∨ (s0 ≤ a ∧ s0 ≤ e)) ∧ ISb b2 (m2.2.2.2 (pq q 2)) (s0 + s) (hp w2 q) (s0 + s) ∧ RTb b2 r r2) ∧ (FR [pq q 4] [] [] [pq q 2] m m2 ∧ F m2 (pq q 4) = ((s0 + s : Nat) : Int) ∧ ∀ k, k < s0 → m2.2.2.2 (pq q 2) k = m.2.2.2 (pq q 2) k) ∧ FR [] [] [89, 142] [88, 141] w w2 ∧ (∀ r, A w2 89 r = if r = q then ((s0 + s : Nat) : Int) else A w 89 r) ∧ ∀ i, ¬ (500 * q + s0 ≤ i ∧ i < 500 * q + 500) → w2.2.2.2 88 i = w.2.2.2 88 i
section
variable {bS bD b2 : Int → Nat → Nat → Prop} {h d d0 d0' h' : Nat → Int64} {N q o v n n' n2 n2' ns ns' s0 s0' s z k9 f f' U j : Nat} {ow kd ow' kd' owd kdd : Nat → Nat} {Fv Fv' : Int64 → Int64 → Prop} {P P' : Int64 → Prop} {m w m2 w2 : MS} {t x r : Int64} {src : Option Nat} {wr : Int}
theorem ISb_up (s : ISb bS h n h' n') (h1 : n ≤ n2) (h2 : n' ≤ n2') : ISb bS h n2 h' n2' := ⟨fun t x z r => by
  obtain ⟨⟨e1, e2, e3⟩, e4⟩ := s.1 t x z r
  exact ⟨⟨e1, by omega, by omega⟩, e4⟩, s.2.1, s.2.2⟩
/-- cells of a copied TUPLE of two -/
theorem CPX_cell (b3 : blk h t = 3) (hs : 3 ≤ s) (c : CPXc h n ow kd P d s0 s t r) : ∀ j, j < 3 → ¬ isH (h (vn t + j)) → d (s0 + j) = h (vn t + j) := by
  obtain ⟨src, bs, cp, pt, sp, c1, c2, c3, c4⟩ := c
  intro j hj hh
  have w := cp.2.1 s0 (Nat.le_refl _) (by omega)
  rw [c1, c2, b3] at w
  have w2 := w.2.2.2.2.2.2.2 j hj
  have ex : xcO h src bs (s0 + j) = h (vn t + j) := by
    unfold xcO
    rw [w2, c2]
    congr 1
    omega
  have w3 := cp.2.2 (s0 + j) (by omega) (by omega)
  rw [ex] at w3
  exact w3.1 hh
/-- no block lies in the hole -/
theorem hole_z (sD : ISb bD d0 s0 d0' s0') (nw : ∀ k a e, b2 k a e → bD k a e ∨ (s0 + k9 ≤ a ∧ s0' + k9 ≤ e)) (hd : ∀ i, i < s0 → h i = d0 i) : ∀ t x, isH t → RTb b2 t x → (vn t + blk h t ≤ s0 ∨ s0 + k9 ≤ vn t) ∧ (vn x + blk h t ≤ s0' ∨ s0' + k9 ≤ vn x) := fun t x z r => by
  obtain ⟨v, r3⟩ := RTb_h r z
  rcases nw _ _ _ r3 with e | e
  · obtain ⟨⟨e1, e2, e3⟩, -⟩ := sD.1 t x z (Or.inr ⟨z, RTb_so r, v, e⟩)
    have g1 : blk h t = blk d0 t := blk_ag z hd e2
    rw [g1]
    exact ⟨Or.inl e2, Or.inl e3⟩
  · exact ⟨Or.inr e.1, Or.inr e.2⟩
theorem copy_n (zx : ¬ isH x) {y : Int32} : fm_M_copy N w y x (I q) = some (w, x) := by
  unfold fm_M_copy fb_M_copy_0
  rw [inHeap_e.2 zx, bnd_so]
  rfl
/-- there {ATOM, x} is copied, here x, behind three cells -/
theorem copyw_pp (gS : HPc h n ow kd Fv P) (hF : FVc Fv) (hh : m.2.2.2 v = h) (hn : n ≤ 512) (hv : v = pq q 2 → n ≤ s0) (gS' : HP (hp w o) n' ow' kd' Fv' P') (hn' : n' ≤ 500) (ho : o < 25) (hq : q < 24) (hoq : o = q → n' ≤ s0) (sS : ISw bS h ns (hp w o) ns')
    (e5 : so t = 5) (b3 : blk h t = 3) (h1 : ¬ isH (h (vn t + 1))) (rt : RTb bS (h (vn t + 2)) x) (z1 : SZc h n ow kd Fv P f t (3 + z)) (z2 : SZ (hp w o) n' ow' kd' Fv' P' f' x z) (hu : F m (pq q 4) = ((s0 : Nat) : Int)) (hu' : A w 89 q = ((s0 + 3 : Nat) : Int)) (sD : ISb bD (m.2.2.2 (pq q 2)) s0 d0' s0) (hd' : ∀ i, i < s0 → hp w q i = d0' i) (hl : s0 + (3 + z) ≤ 500) (gd : HPc (m.2.2.2 (pq q 2)) s0 owd kdd Fv P) (hN : 3000 ≤ N) :
    PP (fun m2 r w2 r2 => (∃ b2, (∀ k a c, bD k a c → b2 k a c) ∧ (∀ k a e, b2 k a e → bD k a e ∨ (s0 + 3 ≤ a ∧ s0 + 3 ≤ e)) ∧ ISb b2 (m2.2.2.2 (pq q 2)) (s0 + 3 + z) (hp w2 q) (s0 + 3 + z) ∧ RTb b2 (m2.2.2.2 (pq q 2) (s0 + 2)) r2) ∧ (so r = 5 ∧ va r = ((s0 : Nat) : Int)) ∧ (m2.2.2.2 (pq q 2) s0 = h (vn t) ∧ m2.2.2.2 (pq q 2) (s0 + 1) = h (vn t + 1)) ∧ (FR [pq q 4] [] [] [pq q 2] m m2 ∧ F m2 (pq q 4) = ((s0 + (3 + z) : Nat) : Int) ∧ ∀ k, k < s0 → m2.2.2.2 (pq q 2) k = m.2.2.2 (pq q 2) k) ∧ FR [] [] [89, 142] [88, 141] w w2 ∧ (∀ r, A w2 89 r = if r = q then ((s0 + 3 + z : Nat) : Int) else A w 89 r) ∧ ∀ i, ¬ (500 * q + (s0 + 3) ≤ i ∧ i < 500 * q + 500) → w2.2.2.2 88 i = w.2.2.2 88 i) (hm_Pr_copyIn N m q v t) (fm_M_copy N w (I o) x (I q)) := by
  intro m2 r w2 r2 e1 e2
  have zt : isH t := Or.inr (Or.inl e5)
  obtain ⟨a1, a2, a3, -⟩ := pk_ok (copyIn_hd (N := N) gS hF hn (by omega) (fun c _ => by rw [hh]) hv z1 hu gd (by omega)) m2 r e1
  have c := pk_ok (copyIn_x (N := N) gS hF hn (by omega) (fun c _ => by rw [hh]) hv z1 hu (by omega) zt) m2 r e1
  have er : so r = 5 ∧ va r = ((s0 : Nat) : Int) := by
    obtain ⟨_, _, _, _, _, _, _, c3, c4⟩ := c
    exact ⟨c3.trans e5, c4⟩
  have h0 : ¬ isH (h (vn t)) := fun zz => by
    have bk := (HP_bkc gS zt (SZ_gtc z1)).1
    have := (bk.2.1 e5).2
    unfold isH at zz
    omega
  have k0 : m2.2.2.2 (pq q 2) s0 = h (vn t) := CPX_cell b3 (by omega) c 0 (by omega) h0
  have k1 : m2.2.2.2 (pq q 2) (s0 + 1) = h (vn t + 1) := CPX_cell b3 (by omega) c 1 (by omega) h1
  have dn : ∀ w2 : MS, (∀ i, ¬ (500 * q + (s0 + 3) ≤ i ∧ i < 500 * q + 500) → w2.2.2.2 88 i = w.2.2.2 88 i) → ISb bD (m2.2.2.2 (pq q 2)) (s0 + 3) (hp w2 q) (s0 + 3) := fun w2 hr => ISb_up (ISb_ag sD a3 (fun i hi => by
    rw [← hd' i hi]
    exact hr (500 * q + i) (by omega))) (by omega) (by omega)
  by_cases zx : isH (h (vn t + 2))
  · have zX := (RTb_isH rt).mpr zx
    have hz := SZ_pos zX z2
    obtain ⟨cs, -, -⟩ := CPX_sub gS hF e5 b3 h1 zx (by omega) hz c
    obtain ⟨y1, y2, y3, cc, st, src, oo, y4, y5, y6, y7⟩ := pk_ok (copy_x (N := N) ho (by omega) hn' (by omega) (fun e => by have := hoq e; omega) gS' z2 hu' (by omega) zX) w2 r2 e2
    have rr := copy_res (N := N) (by omega) zX hu' w2 r2 e2
    have er2 : so r2 = so x ∧ vn r2 = s0 + 3 ∧ 0 ≤ va r2 := by
      have v9 : va r2 = ((s0 + 3 : Nat) : Int) := by rw [rr, va_rp (by omega) (by omega)]
      exact ⟨by rw [rr, so_rp (by omega) (by omega)], by unfold vn; omega, by omega⟩
    exact ⟨copy_iso sS gS hF (dn w2 y3) zx rt (by omega) cs (fun _ _ => rfl) y4 y5 y6 er2 (fun _ _ => rfl), er, ⟨k0, k1⟩, ⟨a1, a2, a3⟩, y1, y2, y3⟩
  · have ex := RTb_n rt zx
    have nx : ¬ isH x := by rw [ex]; exact zx
    have ez : z = 0 := by
      cases f' with
      | zero => exact z2.elim
      | succ f' =>
        rcases z2 with ⟨-, -, y⟩ | ⟨y, -⟩
        · exact y
        · exact absurd y nx
    subst ez
    rw [copy_n nx] at e2
    injection e2 with e2
    injection e2 with e3 e4
    subst e3
    subst e4
    refine ⟨⟨bD, fun _ _ _ q => q, fun _ _ _ q => Or.inl q, dn w (fun _ _ => rfl), ?_⟩, er, ⟨k0, k1⟩, ⟨a1, a2, a3⟩, FR.rf, fun r9 => ?_, fun _ _ => rfl⟩
    · rw [CPX_cell b3 (by omega) c 2 (by omega) zx, ex]
      exact RTb_lit zx (RTb_nil rt)
    · by_cases e : r9 = q
      · rw [if_pos e, e]; exact hu'
      · rw [if_neg e]
theorem SRs_st (sr : SRs Fv P Fv' P' m w q U src t wr o x s) (hm : ∀ j, src = some j → m2.2.2.2 (pq j 2) = m.2.2.2 (pq j 2)) (h1 : o ≠ q → ∀ i, i < 500 → hp w2 o i = hp w o i) (h2 : o = q → ∀ i, i < U → hp w2 o i = hp w o i) (hU : src = some q ∨ o = q → U ≤ n2) : SRs Fv P Fv' P' m2 w2 q n2 src t wr o x s := by
  obtain ⟨ho, sr⟩ := sr
  refine ⟨ho, ?_⟩
  rcases sr with sr | ⟨j, bS, n, ow, kd, f, n', ow', kd', f', e, ⟨g1, g2, g3⟩, ⟨g4, g5, g6⟩, g7, g8, g9⟩
  · exact Or.inl sr
  · have ag : ∀ i, i < n' → hp w2 o i = hp w o i := fun i hi => by
      by_cases c : o = q
      · exact h2 c i (by have := g6 c; omega)
      · exact h1 c i (by omega)
    refine Or.inr ⟨j, bS, n, ow, kd, f, n', ow', kd', f', e, ⟨by rw [hm j e]; exact g1, g2, fun c => by have := g3 c; have := hU (Or.inl (by rw [e, c])); omega⟩, ⟨HP_agr ag g4, g5, fun c => by have := g6 c; have := hU (Or.inr c); omega⟩, ISw_ag g7 (fun i _ => by rw [hm j e]) ag, by rw [hm j e]; exact g8, ?_⟩
    rw [hm j e]
    rcases g9 with ⟨y1, y2, y3⟩ | ⟨z, y1, y2, y3, y4, y5, y6, y7⟩
    · exact Or.inl ⟨y1, y2, SZ_ag ag y3⟩
    · exact Or.inr ⟨z, y1, y2, y3, y4, y5, y6, SZ_ag ag y7⟩
theorem SRs_no (sr : SRs Fv P Fv' P' m w q U none t wr o x s) : SRs Fv P Fv' P' m2 w2 q n2 none t wr o x s := by
  obtain ⟨ho, sr⟩ := sr
  rcases sr with sr | ⟨j, bS, n, ow, kd, f, n', ow', kd', f', e, -⟩
  · exact ⟨ho, Or.inl sr⟩
  · cases e
/-- sizes: here, there -/
theorem SRs_z (sr : SRs Fv P Fv' P' m w q U src t wr o x s) : ∃ (z n' : Nat) (ow' kd' : Nat → Nat) (f' : Nat), HP (hp w o) n' ow' kd' Fv' P' ∧ n' ≤ 500 ∧ SZ (hp w o) n' ow' kd' Fv' P' f' x z ∧ ((wr = 0 ∧ s = z) ∨ ((wr = 1 ∨ wr = 2) ∧ s = 3 + z)) ∧ s ≤ 1012 := by
  obtain ⟨ho, sr⟩ := sr
  rcases sr with ⟨-, y1, y2, y3, -, y4, y5⟩ | ⟨j, bS, n, ow, kd, f, n', ow', kd', f', e, ⟨g1, g2, g3⟩, ⟨g4, g5, g6⟩, g7, g8, g9⟩
  · refine ⟨0, 0, fun _ => 1, fun _ => 0, 1, fun t ht g => ?_, by omega, Or.inl ⟨by rw [y3]; exact y2, y4, rfl⟩, Or.inl ⟨y1, y5⟩, by omega⟩
    rcases g with ⟨z, -⟩ | ⟨-, -, z, -⟩
    · exact absurd ht z
    · omega
  · have hm := SZ_max g1 g8
    rcases g9 with ⟨y1, y2, y3⟩ | ⟨z, y1, y2, y3, y4, y5, y6, y7⟩
    · exact ⟨s, n', ow', kd', f', g4, g5, y3, Or.inl ⟨y1, rfl⟩, by omega⟩
    · exact ⟨z, n', ow', kd', f', g4, g5, y7, Or.inr ⟨y1, y2⟩, by omega⟩
theorem vn_2 : vn (2 : Int64) = 2 := by decide
/-- here three cells ahead -/
theorem w328_pp {Q : MS → Unit → MS → Unit → Prop} {K : MS → Int64 → Option (MS × Unit)} {m0 : Int64} {at' : Int32} {at0 : Int} (hF : FVc Fv) (hq : q < 24) (ho : o < 25) (gS : HPc (m.2.2.2 (pq j 2)) n ow kd Fv P) (hn : n ≤ 512) (hv : j = q → n ≤ s0) (gS' : HP (hp w o) n' ow' kd' Fv' P') (hn' : n' ≤ 500) (hoq : o = q → n' ≤ s0) (sS : ISw bS (m.2.2.2 (pq j 2)) n (hp w o) n')
    (e5 : so t = 5) (b3 : blk (m.2.2.2 (pq j 2)) t = 3) (h1 : m.2.2.2 (pq j 2) (vn t + 1) = mk 1 at0) (rt : RTb bS (m.2.2.2 (pq j 2) (vn t + 2)) x) (z1 : SZc (m.2.2.2 (pq j 2)) n ow kd Fv P f t (3 + z)) (z2 : SZ (hp w o) n' ow' kd' Fv' P' f' x z) (hu : F m (pq q 4) = ((s0 : Nat) : Int)) (sD : ISb bD (m.2.2.2 (pq q 2)) s0 (hp w q) s0) (hl : s0 + (3 + z) ≤ 500) (gd : HPc (m.2.2.2 (pq q 2)) s0 owd kdd Fv P) (hN : 3000 ≤ N)
    (k : ∀ m2 r w2 r2, INs bD q s0 (3 + z) m w m2 r w2 r2 → PP Q (K m2 r) (fb_M_message_378 N () w2 (I q) m0 at' r2)) :
    PP Q (bnd (hm_Pr_copyIn N m q (pq j 2) t) K) (fb_M_message_328 N () (wj (wa w 89 q ((s0 + 3 : Nat) : Int)) 88 (500 * q + s0) 2) (I q) (I o) x m0 at' (I ((s0 : Nat) : Int)) 88 ((((I q) * 500) + (I ((s0 : Nat) : Int))) + 1) 1 (I at0)) := by
  unfold fb_M_message_328
  have i1 : I ((q : Nat) : Int) * 500 + I ((s0 : Nat) : Int) + 1 = I ((500 * q + (s0 + 1) : Nat) : Int) := by
    rw [lit500, lit1, I_mul, I_add, I_add]
    congr 1
    omega
  have i2 : I ((q : Nat) : Int) * 500 + I ((s0 : Nat) : Int) + 2 = I ((500 * q + (s0 + 2) : Nat) : Int) := by
    rw [lit500, show (2 : Int32) = I 2 from rfl, I_mul, I_add, I_add]
    congr 1
    omega
  rw [i1, i2, lit1, term_e, bnd_so, isK_88, ck_t]
  refine r_ck (fun _ => r_lt ?_)
  rw [tnI (n := 500 * q + (s0 + 1)) rfl (by omega), wj_e]
  generalize hw1 : wj (wj (wa w 89 q ((s0 + 3 : Nat) : Int)) 88 (500 * q + s0) 2) 88 (500 * q + (s0 + 1)) (mk 1 at0) = w1
  have f1 : FR [] [] [89] [88] w w1 := by rw [← hw1]; exact FR.wj (FR.wj (FR.wa FR.rf (by simp)) (by simp)) (by simp)
  have a1 : ∀ r, A w1 89 r = if r = q then ((s0 + 3 : Nat) : Int) else A w 89 r := fun r => by
    rw [← hw1, A_wj, A_wj, A_wa (by omega) (by omega), if_pos rfl]
  have c1 : ∀ i, w1.2.2.2 88 i = if i = 500 * q + (s0 + 1) then mk 1 at0 else if i = 500 * q + s0 then 2 else w.2.2.2 88 i := fun i => by rw [← hw1, wj_row, wj_row]; rfl
  have ag : ∀ i, i < n' → hp w1 o i = hp w o i := fun i hi => by
    show w1.2.2.2 88 _ = w.2.2.2 88 _
    have : ¬ (500 * o + i = 500 * q + (s0 + 1)) ∧ ¬ (500 * o + i = 500 * q + s0) := by
      by_cases e : o = q
      · have := hoq e
        subst e
        omega
      · omega
    rw [c1, if_neg this.1, if_neg this.2]
  have ag2 : ∀ i, i < s0 → hp w1 q i = hp w q i := fun i hi => by
    show w1.2.2.2 88 _ = w.2.2.2 88 _
    rw [c1, if_neg (by omega), if_neg (by omega)]
  refine pp_bb (pp_mo (copyw_pp (N := N) (d0' := hp w q) gS hF rfl hn (fun e => hv (pq_e (by omega) (by omega) e).1) (HP_agr ag gS') hn' ho hq hoq (ISw_ag sS (fun _ _ => rfl) ag) e5 b3 (by rw [h1]; exact nh_mk (by omega)) rt z1 (SZ_ag ag z2) hu (by rw [a1, if_pos rfl]) sD ag2 hl gd hN) (fun m2 r w2 r2 hc => ?_))
  obtain ⟨⟨b2, q1, q2, q3, q4⟩, ⟨q5, q6⟩, ⟨q7, q8⟩, ⟨q9, q10, q11⟩, q12, q13, q14⟩ := hc
  refine r_ck (fun _ => r_lt ?_)
  rw [tnI (n := 500 * q + (s0 + 2)) rfl (by omega), wj_e, show (5 : Int32) = I 5 from rfl, term_e, bnd_so]
  have cc : ∀ i, hp (wj w2 88 (500 * q + (s0 + 2)) r2) q i = if i = s0 + 2 then r2 else hp w2 q i := fun i => hp_wj
  have c2 : ∀ i, i < s0 + 3 → hp w2 q i = hp w1 q i := fun i hi => q14 (500 * q + i) (by omega)
  have k0 : hp w2 q s0 = 2 := by
    rw [c2 s0 (by omega)]
    show w1.2.2.2 88 _ = _
    rw [c1, if_neg (by omega), if_pos rfl]
  have k1 : hp w2 q (s0 + 1) = mk 1 at0 := by
    rw [c2 (s0 + 1) (by omega)]
    show w1.2.2.2 88 _ = _
    rw [c1, if_pos rfl]
  have vr : vn r = s0 := by unfold vn; rw [q6]; omega
  have e5' : so (mk 5 ((s0 : Nat) : Int)) = 5 := so_mk (by omega) (by omega)
  have v5 := mk_v (k := 5) (a := s0) (by omega)
  have bl : blk (m2.2.2.2 (pq q 2)) r = 3 := by
    rw [← b3]
    unfold blk
    rw [q5, e5, vr, q7, if_neg (by omega), if_pos rfl, if_neg (by omega), if_pos rfl]
  have bl' : blk (hp (wj w2 88 (500 * q + (s0 + 2)) r2) q) (mk 5 ((s0 : Nat) : Int)) = 3 := by
    unfold blk
    rw [e5', v5.2, cc, if_neg (by omega), if_pos rfl, if_neg (by omega), k0, vn_2]
  obtain ⟨t1, t2⟩ := ISb_hole (h2 := m2.2.2.2 (pq q 2)) (h2' := hp (wj w2 88 (500 * q + (s0 + 2)) r2) q) (a0 := s0) (c0 := s0) (m := 3) (t := r) (x := mk 5 ((s0 : Nat) : Int)) q3 (hole_z sD q2 q11) (Or.inr (Or.inl q5)) (by rw [e5', q5]) ⟨by omega, by rw [v5.1]; omega⟩ vr v5.2 bl bl' ⟨by omega, by omega⟩ ⟨by omega, by omega⟩ (fun _ _ => rfl) (fun i hi => by rw [cc, if_neg (by omega)]) (fun j hj1 hj2 => by
    have : prt r = 1 := by unfold prt; rw [q5]; rfl
    have ej : j = 1 ∨ j = 2 := by omega
    rcases ej with e | e
    · subst e
      rw [q8, h1, cc, if_neg (by omega), k1]
      exact RTb_lit (nh_mk (by omega)) (fun e => by rw [so_mk (by omega) (by omega)] at e; omega)
    · subst e
      rw [cc, if_pos rfl]
      exact q4) (by omega)
  refine k _ _ _ _ ⟨⟨_, fun k a c y => Or.inl (q1 k a c y), fun k a e y => ?_, ?_, t2⟩, ⟨q9, q10, q11⟩, ?_, fun r9 => ?_, fun i hi => ?_⟩
  · rcases y with y | ⟨-, y1, y2⟩
    · rcases q2 k a e y with y | y
      · exact Or.inl y
      · exact Or.inr ⟨by omega, by omega⟩
    · exact Or.inr ⟨by omega, by omega⟩
  · rw [show s0 + (3 + z) = s0 + 3 + z by omega]
    exact t1
  · exact FR.wj (FR.tr (FR.mo f1 (by simp) (by simp) (by simp) (by simp)) q12) (by simp)
  · rw [A_wj, q13, a1]
    by_cases e : r9 = q
    · rw [if_pos e, if_pos e]; omega
    · rw [if_neg e, if_neg e, if_neg e]
  · rw [wj_row, if_neg (by omega), q14 i (by omega), c1, if_neg (by omega), if_neg (by omega)]
/-- a term that is told is copied -/
theorem inner_pp {Q : MS → Unit → MS → Unit → Prop} {K : MS → Int64 → Option (MS × Unit)} {m0 : Int64} {at' : Int32} (sr : SRs Fv P Fv' P' m w q s0 src t wr o x s) (hF : FVc Fv) (hq : q < 24) (hu : F m (pq q 4) = ((s0 : Nat) : Int)) (hu' : A w 89 q = ((s0 : Nat) : Int)) (sD : ISb bD (m.2.2.2 (pq q 2)) s0 (hp w q) s0) (gd : HPc (m.2.2.2 (pq q 2)) s0 owd kdd Fv P) (hl : s0 + s ≤ 500) (hN : 3000 ≤ N)
    (k : ∀ m2 r w2 r2, INs bD q s0 s m w m2 r w2 r2 → PP Q (K m2 r) (fb_M_message_378 N () w2 (I q) m0 at' r2)) :
    PP Q (match (generalizing := false) src with | none => K m t | some j => bnd (hm_Pr_copyIn N m q (pq j 2) t) K) (fb_M_message_261 N () w (I q) (I wr) (I o) x m0 at') := by
  obtain ⟨ho, sr⟩ := sr
  unfold fb_M_message_261
  rcases sr with ⟨rfl, rfl, y2, rfl, y6, y4, rfl⟩ | ⟨j, bS, n, ow, kd, f, n', ow', kd', f', rfl, ⟨g1, g2, g3⟩, ⟨g4, g5, g6⟩, g7, g8, g9⟩
  · rw [lit0, decide_eq_true (Int32.le_refl _), br_t, copy_n y2, bnd_so]
    refine k m x w x ⟨⟨bD, fun _ _ _ q => q, fun _ _ _ q => Or.inl q, sD, RTb_lit y2 y6⟩, ⟨FR.rf, hu, fun _ _ => rfl⟩, FR.rf, fun r9 => ?_, fun _ _ => rfl⟩
    by_cases e : r9 = q
    · rw [if_pos e, e]; exact hu'
    · rw [if_neg e]
  · rcases g9 with ⟨rfl, y2, y3⟩ | ⟨z, y1, rfl, y3, y4, y5, y6, y7⟩
    · rw [lit0, decide_eq_true (Int32.le_refl _), br_t]
      exact pp_bb (pp_mo (copy_pp (N := N) g1 hF rfl g2 (fun e => g3 (pq_e (by omega) (by omega) e).1) g4 g5 ho hq g6 g7 y2 g8 y3 hu hu' sD ⟨by omega, hl⟩ gd hN) (fun m2 r w2 r2 hc => k m2 r w2 r2 hc))
    · rw [lit0, decI (by omega) (by omega) (by omega) (by omega), decide_eq_false (by omega), br_f]
      have i1 : I ((q : Nat) : Int) * 500 + I ((s0 : Nat) : Int) = I ((500 * q + s0 : Nat) : Int) := by
        rw [lit500, I_mul, I_add]
        congr 1
        omega
      refine r_ck (fun _ => r_ck (fun _ => r_ck (fun _ => r_lt ?_)))
      rw [tnI (n := q) rfl (by omega), I_A' hu', show I ((s0 : Nat) : Int) + 3 = I ((s0 + 3 : Nat) : Int) from addN, wa_e]
      refine r_ck (fun _ => r_lt ?_)
      rw [show (I ((q : Nat) : Int) * 500 + I ((s0 : Nat) : Int)).toNatClampNeg = 500 * q + s0 by rw [i1]; exact tnI rfl (by omega), wj_e, lit1, decE (by omega) (by omega) (by omega) (by omega), ← lit1]
      by_cases e1 : wr = 1
      · rw [decide_eq_true e1, br_t]
        rw [if_pos e1] at y5
        exact w328_pp (at0 := 7) hF hq ho g1 g2 g3 g4 g5 g6 g7 y3 y4 y5 y6 g8 y7 hu sD hl gd hN k
      · rw [decide_eq_false e1, br_f]
        rw [if_neg e1] at y5
        exact w328_pp (at0 := 19) hF hq ho g1 g2 g3 g4 g5 g6 g7 y3 y4 y5 y6 g8 y7 hu sD hl gd hN k
end
