/-! calls() of the reference: what is written -/
set_option maxRecDepth 100000
/-- calls(): rows behind it -/
def CLX (w : MS) (cvr fof : Int → Int → Int) (u : MS) (j : Nat) : Prop := KCL w u j ∧ (u.2.2.2 = w.2.2.2 ∧ u.2.1 = w.2.1) ∧ ∀ i, i < j → (w.2.2.1 23 i = 12 → u.2.2.1 27 i = I (cvr (A w 25 i) (A w 26 i))) ∧ (w.2.2.1 23 i = 15 → u.2.2.1 27 i = I (fof (A w 25 i) (A w 26 i))) ∧ (w.2.2.1 23 i ≠ 12 → w.2.2.1 23 i ≠ 15 → u.2.2.1 27 i = w.2.2.1 27 i)
section
variable {m0 w0 m w v u : MS} {N g n j k M na a : Nat} {x y r : Int32} {fa : Nat → Nat} {cvr fof prd : Int → Int → Int}
theorem CLX_0 : CLX w cvr fof w 0 := ⟨⟨fun _ _ _ => rfl, fun _ _ => rfl, fun _ _ => rfl⟩, ⟨rfl, rfl⟩, fun i hi => absurd hi (by omega)⟩
theorem CLX_s (h : CLX w cvr fof u j) (h1 : w.2.2.1 23 j ≠ 12) (h2 : w.2.2.1 23 j ≠ 15) : CLX w cvr fof u (j + 1) := by
  refine ⟨KCL_s h.1, h.2.1, fun i hi => ?_⟩
  by_cases z : i = j
  · subst z
    exact ⟨fun q => absurd q h1, fun q => absurd q h2, fun _ _ => h.1.2.2 i (Nat.le_refl _)⟩
  · exact h.2.2 i (by omega)
theorem CLX_27 (h : CLX w cvr fof u j) (hk : w.2.2.1 23 j = 12 ∨ w.2.2.1 23 j = 15) (h1 : w.2.2.1 23 j = 12 → y = I (cvr (A w 25 j) (A w 26 j))) (h2 : w.2.2.1 23 j = 15 → y = I (fof (A w 25 j) (A w 26 j))) : CLX w cvr fof (upA u 27 (upd (u.2.2.1 27) j y)) (j + 1) := by
  refine ⟨KCL_27 h.1, h.2.1, fun i hi => ?_⟩
  rw [upA_at]
  by_cases z : i = j
  · subst z
    rw [upd_at]
    exact ⟨h1, h2, fun q1 q2 => by rcases hk with hk | hk <;> contradiction⟩
  · rw [upd_no z]
    exact h.2.2 i (by omega)
theorem CLX_r (h : CLX w cvr fof u j) (e1 : ∀ k, k ≠ 71 → k ≠ 72 → v.1 k = u.1 k) (e2 : v.2.2.1 = u.2.2.1) (e3 : v.2.2.2 = u.2.2.2 ∧ v.2.1 = u.2.1) : CLX w cvr fof v j := ⟨KCL_r h.1 e1 e2, ⟨e3.1.trans h.2.1.1, e3.2.trans h.2.1.2⟩, by rw [e2]; exact h.2.2⟩
theorem rule_k {rn tk : Int32} (hr : rn ≠ 0) : PK (fun v (_ : Unit) => (∀ k, k ≠ 71 → k ≠ 72 → v.1 k = w.1 k) ∧ v.2.2.1 = w.2.2.1 ∧ v.2.2.2 = w.2.2.2 ∧ v.2.1 = w.2.1) (fm_M_rule N w rn tk) := fun v r e => ⟨(rule_p hr v r e).2.1, (rule_p hr v r e).2.2, yv9_fm_M_rule Kv9_rf v r e⟩
/-- the loop of calls() -/
theorem callx_lp (h32 : w.1 32 = I (n : Nat)) (hn : n ≤ 100000) (hF : ∀ u x y, u.1 52 = w.1 52 → u.2.2.1 47 = w.2.2.1 47 → u.2.2.1 48 = w.2.2.1 48 → PK (fun v r => v = u ∧ r = I (fof x.toInt y.toInt)) (fm_M_functionOf N u x y)) (hP : ∀ u i, i < n → w.2.2.1 23 i = 12 → (∀ k, k ∈ [2, 12, 13] → u.2.2.1 k = w.2.2.1 k) → PK (fun v r => v = u ∧ r = I (prd (A w 25 i) (A w 26 i))) (fm_M_predefinedOf N u (w.2.2.1 25 i) (w.2.2.1 26 i))) (hR : ∀ x y, -1 ≤ prd x y ∧ prd x y < 30) (hC : ∀ x y, cvr x y = if prd x y = -1 then fof x y else 2000 + prd x y) : ∀ (M j : Nat) (u : MS), j ≤ n → CLX w cvr fof u j → PK (fun v (_ : Unit) => CLX w cvr fof v n) (gg_M_calls N M u (I (j : Nat)))
  | 0, _, _, _, _ => pk_none
  | M + 1, j, u, hj, hk => by
    have k1 := hk.1
    show PK _ (fb_M_calls_2 N (gg_M_calls N M) u (I (j : Nat)))
    unfold fb_M_calls_2
    rw [k1.1 32 (by decide) (by decide), h32, decide_eq_decide.mpr (I_le (x := (n : Nat)) (y := (j : Nat)) (by omega) (by omega) (by omega) (by omega)), tnI (n := j) rfl (by omega), k1.2.1 23 (by decide), k1.2.1 25 (by decide), k1.2.1 26 (by decide)]
    by_cases z : n ≤ j
    · rw [decide_eq_true (by omega), br_t]
      have : j = n := by omega
      subst this
      exact pk_some hk
    · rw [decide_eq_false (by omega), br_f]
      have nx : ∀ v : MS, CLX w cvr fof v (j + 1) → PK (fun v (_ : Unit) => CLX w cvr fof v n) (fb_M_calls_191 N (gg_M_calls N M) v (I (j : Nat))) := fun v h1 => by
        unfold fb_M_calls_191
        rw [i_suc]
        exact callx_lp h32 hn hF hP hR hC M (j + 1) v (by omega) h1
      have n132 : ∀ (v : MS) (y : Int32), CLX w cvr fof v j → w.2.2.1 23 j = 12 → y = I (cvr (A w 25 j) (A w 26 j)) → PK (fun v (_ : Unit) => CLX w cvr fof v n) (fb_M_calls_132 N (gg_M_calls N M) v (I (j : Nat)) 27 (I (j : Nat)) y) := fun v y h1 h2 h3 => by
        unfold fb_M_calls_132
        rw [tnI (n := j) rfl (by omega)]
        exact pk_ck (fun _ => pk_ck (fun _ => pk_lt (nx _ (CLX_27 h1 (Or.inl h2) (fun _ => h3) (fun q => by rw [h2] at q; exact absurd q (by decide))))))
      have rj := hR (A w 25 j) (A w 26 j)
      have cj := hC (A w 25 j) (A w 26 j)
      have n113 : ∀ (v : MS), CLX w cvr fof v j → w.2.2.1 23 j = 12 → PK (fun v (_ : Unit) => CLX w cvr fof v n) (fb_M_calls_113 N (gg_M_calls N M) v (I (j : Nat)) (I (fof (A w 25 j) (A w 26 j))) (I (prd (A w 25 j) (A w 26 j)))) := fun v h1 h2 => by
        unfold fb_M_calls_113
        have e : I (prd (A w 25 j) (A w 26 j)) = (-1 : Int32) ↔ prd (A w 25 j) (A w 26 j) = -1 := by
          rw [show (-1 : Int32) = I (-1) from rfl]
          exact I_eq (by omega) (by omega) (by omega) (by omega)
        refine pk_br (fun q => n132 v _ h1 h2 ?_) (fun q => n132 v _ h1 h2 ?_)
        · rw [cj, if_pos (e.mp (of_decide_eq_true q))]
        · rw [cj, if_neg (fun q2 => of_decide_eq_false q (e.mpr q2)), show (2000 : Int32) = I 2000 from rfl, I_add]
      have n101 : w.2.2.1 23 j = 12 → PK (fun v (_ : Unit) => CLX w cvr fof v n) (fb_M_calls_101 N (gg_M_calls N M) u (I (j : Nat)) (I (fof (A w 25 j) (A w 26 j))) (I (prd (A w 25 j) (A w 26 j)))) := fun h2 => by
        unfold fb_M_calls_101
        exact pk_ck (fun _ => pk_bnd (pk_mo (rule_k (by decide)) (fun v _ q => n113 v (CLX_r hk q.1 q.2.1 q.2.2) h2)))
      refine pk_ck (fun _ => pk_br (fun z12 => ?_) (fun z12 => ?_))
      · have k12 : w.2.2.1 23 j = 12 := of_decide_eq_true z12
        refine pk_ck (fun _ => pk_ck (fun _ => pk_bnd (pk_mo (hF u _ _ (k1.1 52 (by decide) (by decide)) (k1.2.1 47 (by decide)) (k1.2.1 48 (by decide))) (fun u6 r6 h6 => ?_))))
        obtain ⟨e6, h6⟩ := h6
        rw [e6, k1.2.1 25 (by decide), k1.2.1 26 (by decide)]
        refine pk_ck (fun _ => pk_ck (fun _ => pk_bnd (pk_mo (hP u j (by omega) k12 (fun k hk2 => k1.2.1 k (by rintro rfl; revert hk2; decide))) (fun u7 r7 h7 => ?_))))
        obtain ⟨e7, h7⟩ := h7
        rw [e7, h7, show r6 = I (fof (A w 25 j) (A w 26 j)) from h6]
        have n80 : PK (fun v (_ : Unit) => CLX w cvr fof v n) (fb_M_calls_80 N (gg_M_calls N M) u (I (j : Nat)) (I (fof (A w 25 j) (A w 26 j))) (I (prd (A w 25 j) (A w 26 j)))) := by
          unfold fb_M_calls_80
          exact pk_ck (fun _ => pk_br (fun _ => pk_br (fun _ => pk_br (fun _ => n113 u hk k12) (fun _ => n101 k12)) (fun _ => n101 k12)) (fun _ => n113 u hk k12))
        exact pk_br (fun _ => pk_br (fun _ => pk_ck (fun _ => pk_bnd (pk_mo (rule_k (by decide)) (fun v _ q => n113 v (CLX_r hk q.1 q.2.1 q.2.2) k12)))) (fun _ => n80)) (fun _ => n80)
      · have k12 : w.2.2.1 23 j ≠ 12 := of_decide_eq_false z12
        refine pk_ck (fun _ => pk_br (fun z15 => ?_) (fun z15 => nx u (CLX_s hk k12 (of_decide_eq_false z15))))
        have k15 : w.2.2.1 23 j = 15 := of_decide_eq_true z15
        refine pk_ck (fun _ => pk_ck (fun _ => pk_bnd (pk_mo (hF u _ _ (k1.1 52 (by decide) (by decide)) (k1.2.1 47 (by decide)) (k1.2.1 48 (by decide))) (fun u3 r3 h3 => ?_))))
        obtain ⟨e3, h3⟩ := h3
        rw [e3]
        have hk2 := CLX_27 (y := r3) hk (Or.inr k15) (fun q => absurd q k12) (fun _ => h3)
        refine pk_ck (fun _ => pk_lt (pk_ck (fun _ => ?_)))
        exact pk_br (fun _ => pk_ck (fun _ => pk_bnd (pk_mo (rule_k (by decide)) (fun v _ q => nx v (CLX_r hk2 q.1 q.2.1 q.2.2))))) (fun _ => nx _ hk2)
/-- predefinedOf(), here -/
theorem pre_y (h2 : w.2.2.1 2 = mS0.2.2.1 2) (h : ATf m w0 fa na) (h12 : w.2.2.1 12 = w0.2.2.1 12) (h13 : w.2.2.1 13 = w0.2.2.1 13) (ha : a < na) : PK (fun v r => v = w ∧ r = I (if id36 (ix36 m fa a) y = -1 then -1 else p36 (id36 (ix36 m fa a) y))) (fm_M_predefinedOf N w (I (a : Nat)) y) := by
  obtain ⟨⟨a1, a2, a3, a4, a5⟩, ⟨b1, b2⟩, c1⟩ := h
  have f3 := a3 a ha
  have mono : ∀ d j, j + d = na → fa j ≤ fa na := fun d => by
    induction d with
    | zero => intro j hj; rw [show j = na by omega]; exact Nat.le_refl _
    | succ d ih => intro j hj; exact Nat.le_trans (a3 j (by omega)) (ih (j + 1) (by omega))
  have fna := mono (na - (a + 1)) (a + 1) (by omega)
  have pr := pr_out (N := N) (y := y) h2 ⟨by rw [h13]; exact b2 a (by omega), a4 a (by omega)⟩ ⟨by rw [h13]; exact b2 (a + 1) (by omega), a4 (a + 1) (by omega), f3⟩ (by omega) 30 0 rfl (fun i hi => absurd hi (by omega)) N
  have prr : PK (PRq w fa a y) (fm_M_predefinedOf N w (I (a : Nat)) y) := pr
  refine pk_mo prr (fun v r q => ⟨q.1, ?_⟩)
  have mc : ∀ k, k < 30 → MR36 w fa a y k → MC36 m fa a (sg36 k) := fun k hk q => by
    obtain ⟨p1, p2, p3⟩ := r36 k hk
    refine ⟨q.2.1.trans p1, fun j hj => ?_⟩
    rw [q.2.2 j (by omega), h12]
    exact (c1 _ (by have := q.2.1; omega)).symm
  have mr : ∀ k, k < 30 → MC36 m fa a (sg36 k) → I (npre k : Nat) = y → MR36 w fa a y k := fun k hk q hy => by
    obtain ⟨p1, p2, p3⟩ := r36 k hk
    refine ⟨hy, q.1.trans p1.symm, fun j hj => ?_⟩
    rw [h12, ← c1 _ (by have := q.1; omega)]
    exact q.2 j (by omega)
  have n8 : I ((npre 8 : Nat) : Int) = (2 : Int32) := rfl
  rcases q.2 with ⟨r1, r2⟩ | ⟨k, k1, k2, k3⟩
  · have c0 : id36 (ix36 m fa a) y = -1 := by
      cases e : ix36 m fa a with
      | none => rfl
      | some i =>
        obtain ⟨i2, i1⟩ := ix_lt e
        show (if i = 7 ∧ y = 2 then (29 : Int) else if takL.getD i 0 = y then ((i : Nat) : Int) else -1) = -1
        by_cases z : i = 7 ∧ y = 2
        · exact absurd (mr 8 (by decide) (by rw [show sg36 8 = 7 from rfl, ← z.1]; exact i1) (by rw [n8, z.2])) (r2 8 (by decide))
        · rw [if_neg z]
          by_cases z2 : takL.getD i 0 = y
          · obtain ⟨k, k1, k2, k3, -⟩ := q36 i i2
            exact absurd (mr k k1 (by rw [k3]; exact i1) (by rw [← t36 k k1 k2, k3]; exact z2)) (r2 k k1)
          · rw [if_neg z2]
    rw [c0, if_pos rfl]
    exact r1
  · have hm := mc k k1 k3
    have hs := (r36 k k1).2.1
    rw [ix_s hm hs]
    have ce : id36 (some (sg36 k)) y = if sg36 k = 7 ∧ y = 2 then 29 else if takL.getD (sg36 k) 0 = y then ((sg36 k : Nat) : Int) else -1 := rfl
    rw [ce]
    by_cases z : sg36 k = 7 ∧ y = 2
    · rw [if_pos z, if_neg (by decide), show p36 29 = 8 from rfl]
      have k78 : k = 7 ∨ k = 8 := by
        have := z.1
        unfold sg36 at this
        split at this <;> omega
      rcases k78 with e | e
      · exfalso
        have h7 := k3.1
        rw [e, z.2] at h7
        exact absurd h7 (by decide)
      · rw [k2, e]; rfl
    · rw [if_neg z]
      have k8 : k ≠ 8 := fun e => z (by rw [e]; exact ⟨rfl, by rw [← k3.1, e]; rfl⟩)
      rw [if_pos ((t36 k k1 k8).trans k3.1), if_neg (by omega), k2]
      have e : p36 ((sg36 k : Nat) : Int) = ((k : Nat) : Int) := by
        unfold p36 sg36
        by_cases z2 : k ≤ 7
        · rw [if_pos z2, if_pos (by omega)]
        · rw [if_neg z2, if_neg (by omega), if_neg (by omega)]; omega
      rw [e]
/-- calls() -/
theorem calls_x (h52 : w.1 52 = I (g : Nat)) (hg : g ≤ 666) (h32 : w.1 32 = I (n : Nat)) (hn : n ≤ 100000) (h2 : w.2.2.1 2 = mS0.2.2.1 2) (h : ATf m w fa na) (hx : ∀ i, i < n → w.2.2.1 23 i = 12 → 0 ≤ A w 25 i ∧ A w 25 i < ((na : Nat) : Int)) (ht : ∀ f, f < g → m.2.2.1 24 f = w.2.2.1 47 f ∧ m.2.2.1 25 f = w.2.2.1 48 f) : PK (fun v (_ : Unit) => CLX w (cvX m fa na g) (fofX m g) v n) (fm_M_calls N w) := by
  have pr : ∀ x y, idX m fa na x y = -1 ∨ (0 ≤ idX m fa na x y ∧ idX m fa na x y < 30) := fun x y => id36_r (fun i e => ixI_lt e)
  have na5 := h.1.2.2.2.2
  refine callx_lp (prd := fun x y => if idX m fa na x y = -1 then -1 else p36 (idX m fa na x y)) h32 hn (fun u x y e1 e2 e3 => ?_) (fun u i hi h12 hk => ?_) (fun x y => ?_) (fun x y => ?_) N 0 w (Nat.zero_le _) CLX_0
  · have := fofx_p (N := N) (w := u) (g := g) (x := x) (y := y) (e1.trans h52) (by omega)
    rw [e2, e3] at this
    refine pk_mo this (fun v r q => ⟨q.1, q.2.trans ?_⟩)
    show _ = I (fixI (m.2.2.1 24) (m.2.2.1 25) (I x.toInt) (I y.toInt) g 0)
    rw [← I_of x, ← I_of y, fix_cg (fun i _ hi => ht i (by omega))]
  · obtain ⟨x1, x2⟩ := hx i hi h12
    have e25 : w.2.2.1 25 i = I (((A w 25 i).toNat : Nat) : Int) := by
      rw [Int.toNat_of_nonneg x1]
      exact I_of _
    have := pre_y (N := N) (w := u) (w0 := w) (m := m) (fa := fa) (na := na) (a := (A w 25 i).toNat) (y := w.2.2.1 26 i) (by rw [hk 2 (by decide)]; exact h2) h (hk 12 (by decide)) (hk 13 (by decide)) (by omega)
    rw [← e25] at this
    refine pk_mo this (fun v r q => ⟨q.1, q.2.trans ?_⟩)
    have e : ix36 m fa (A w 25 i).toNat = ixI m fa na (I (A w 25 i)) := by
      unfold ixI
      rw [show (I (A w 25 i)).toInt = A w 25 i from congrArg Int32.toInt (I_of (w.2.2.1 25 i)).symm, if_pos ⟨x1, x2⟩]
    show _ = I (if idX m fa na (A w 25 i) (A w 26 i) = -1 then -1 else p36 (idX m fa na (A w 25 i) (A w 26 i)))
    unfold idX
    rw [← e, show I (A w 26 i) = w.2.2.1 26 i from (I_of _).symm]
  · show -1 ≤ (if idX m fa na x y = -1 then -1 else p36 (idX m fa na x y)) ∧ (if idX m fa na x y = -1 then -1 else p36 (idX m fa na x y)) < 30
    rcases pr x y with e | e
    · rw [if_pos e]; omega
    · rw [if_neg (by omega)]
      have := p36_r e
      omega
  · show cvX m fa na g x y = if (if idX m fa na x y = -1 then -1 else p36 (idX m fa na x y)) = -1 then fofX m g x y else 2000 + (if idX m fa na x y = -1 then -1 else p36 (idX m fa na x y))
    unfold cvX
    rcases pr x y with e | e
    · rw [if_pos e, if_pos e, if_pos rfl]
    · have := p36_r e
      rw [if_neg (by omega : ¬ idX m fa na x y = -1), if_neg (by omega : ¬ idX m fa na x y = -1), if_neg (by omega)]
end
