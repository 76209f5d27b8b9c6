section
set_option maxRecDepth 100000
def CLX (w : MS) (cvr fof : Int → Int → Int) (u : MS) (j : Nat) : Prop := KCL w u j ∧ (u.2.2.2 = w.2.2.2 ∧ u.2.1 = w.2.1) ∧ ∀ i, i < j → (w.2.2.1 23 i = 12 → u.2.2.1 27 i = I (cvr (A w 25 i) (A w 26 i))) ∧ (w.2.2.1 23 i = 15 → u.2.2.1 27 i = I (fof (A w 25 i) (A w 26 i))) ∧ (w.2.2.1 23 i ≠ 12 → w.2.2.1 23 i ≠ 15 → u.2.2.1 27 i = w.2.2.1 27 i)
section
variable {m0 w0 m w v u : MS} {N g n j k M na a : Nat} {x y r : Int32} {fa : Nat → Nat} {cvr fof prd : Int → Int → Int}
theorem CLX_0 : CLX w cvr fof w 0 := ⟨⟨fun _ _ _ => rfl, fun _ _ => rfl, fun _ _ => rfl⟩, ⟨rfl, rfl⟩, fun i hi => absurd hi (by omega)⟩
theorem CLX_s (h : CLX w cvr fof u j) (h1 : w.2.2.1 23 j ≠ 12) (h2 : w.2.2.1 23 j ≠ 15) : CLX w cvr fof u (j + 1) := by
  refine ⟨KCL_s h.1, h.2.1, fun i hi => ?_⟩
  by_cases z : i = j
  · subst z
    exact ⟨fun q => absurd q h1, fun q => absurd q h2, fun _ _ => h.1.2.2 i (Nat.le_refl _)⟩
  · exact h.2.2 i (by omega)
theorem CLX_27 (h : CLX w cvr fof u j) (hk : w.2.2.1 23 j = 12 ∨ w.2.2.1 23 j = 15) (h1 : w.2.2.1 23 j = 12 → y = I (cvr (A w 25 j) (A w 26 j))) (h2 : w.2.2.1 23 j = 15 → y = I (fof (A w 25 j) (A w 26 j))) : CLX w cvr fof (upA u 27 (upd (u.2.2.1 27) j y)) (j + 1) := by
  refine ⟨KCL_27 h.1, h.2.1, fun i hi => ?_⟩
  rw [upA_at]
  by_cases z : i = j
  · subst z
    rw [upd_at]
    exact ⟨h1, h2, fun q1 q2 => by rcases hk with hk | hk <;> contradiction⟩
  · rw [upd_no z]
    exact h.2.2 i (by omega)
theorem CLX_r (h : CLX w cvr fof u j) (e1 : ∀ k, k ≠ 71 → k ≠ 72 → v.1 k = u.1 k) (e2 : v.2.2.1 = u.2.2.1) (e3 : v.2.2.2 = u.2.2.2 ∧ v.2.1 = u.2.1) : CLX w cvr fof v j := ⟨KCL_r h.1 e1 e2, ⟨e3.1.trans h.2.1.1, e3.2.trans h.2.1.2⟩, by rw [e2]; exact h.2.2⟩
theorem rule_k {rn tk : Int32} (hr : rn ≠ 0) : PK (fun v (_ : Unit) => (∀ k, k ≠ 71 → k ≠ 72 → v.1 k = w.1 k) ∧ v.2.2.1 = w.2.2.1 ∧ v.2.2.2 = w.2.2.2 ∧ v.2.1 = w.2.1) (fm_M_rule N w rn tk) := fun v r e => ⟨(rule_p hr v r e).2.1, (rule_p hr v r e).2.2, yv9_fm_M_rule Kv9_rf v r e⟩
theorem callx_lp (h32 : w.1 32 = I (n : Nat)) (hn : n ≤ 100000) (hF : ∀ u x y, u.1 52 = w.1 52 → u.2.2.1 47 = w.2.2.1 47 → u.2.2.1 48 = w.2.2.1 48 → PK (fun v r => v = u ∧ r = I (fof x.toInt y.toInt)) (fm_M_functionOf N u x y)) (hP : ∀ u i, i < n → w.2.2.1 23 i = 12 → (∀ k, k ∈ [2, 12, 13] → u.2.2.1 k = w.2.2.1 k) → PK (fun v r => v = u ∧ r = I (prd (A w 25 i) (A w 26 i))) (fm_M_predefinedOf N u (w.2.2.1 25 i) (w.2.2.1 26 i))) (hR : ∀ x y, -1 ≤ prd x y ∧ prd x y < 30) (hC : ∀ x y, cvr x y = if prd x y = -1 then fof x y else 2000 + prd x y) : ∀ (M j : Nat) (u : MS), j ≤ n → CLX w cvr fof u j → PK (fun v (_ : Unit) => CLX w cvr fof v n) (gg_M_calls N M u (I (j : Nat)))
  | 0, _, _, _, _ => pk_none
  | M + 1, j, u, hj, hk => by
    have k1 := hk.1
    show PK _ (fb_M_calls_2 N (gg_M_calls N M) u (I (j : Nat)))
    unfold fb_M_calls_2
    rw [k1.1 32 (by decide) (by decide), h32, decide_eq_decide.mpr (I_le (x := (n : Nat)) (y := (j : Nat)) (by omega) (by omega) (by omega) (by omega)), tnI (n := j) rfl (by omega), k1.2.1 23 (by decide), k1.2.1 25 (by decide), k1.2.1 26 (by decide)]
    by_cases z : n ≤ j
    · rw [decide_eq_true (by omega), br_tq]
      have : j = n := by omega
      subst this
      exact pk_some hk
    · rw [decide_eq_false (by omega), br_fq]
      have nx : ∀ v : MS, CLX w cvr fof v (j + 1) → PK (fun v (_ : Unit) => CLX w cvr fof v n) (fb_M_calls_191 N (gg_M_calls N M) v (I (j : Nat))) := fun v h1 => by
        unfold fb_M_calls_191
        rw [i_suc]
        exact callx_lp h32 hn hF hP hR hC M (j + 1) v (by omega) h1
      have n132 : ∀ (v : MS) (y : Int32), CLX w cvr fof v j → w.2.2.1 23 j = 12 → y = I (cvr (A w 25 j) (A w 26 j)) → PK (fun v (_ : Unit) => CLX w cvr fof v n) (fb_M_calls_132 N (gg_M_calls N M) v (I (j : Nat)) 27 (I (j : Nat)) y) := fun v y h1 h2 h3 => by
        unfold fb_M_calls_132
        rw [tnI (n := j) rfl (by omega)]
        exact pk_ck (fun _ => pk_ck (fun _ => pk_ltq (nx _ (CLX_27 h1 (Or.inl h2) (fun _ => h3) (fun q => by rw [h2] at q; exact absurd q (by decide))))))
      have rj := hR (A w 25 j) (A w 26 j)
      have cj := hC (A w 25 j) (A w 26 j)
      have n113 : ∀ (v : MS), CLX w cvr fof v j → w.2.2.1 23 j = 12 → PK (fun v (_ : Unit) => CLX w cvr fof v n) (fb_M_calls_113 N (gg_M_calls N M) v (I (j : Nat)) (I (fof (A w 25 j) (A w 26 j))) (I (prd (A w 25 j) (A w 26 j)))) := fun v h1 h2 => by
        unfold fb_M_calls_113
        have e : I (prd (A w 25 j) (A w 26 j)) = (-1 : Int32) ↔ prd (A w 25 j) (A w 26 j) = -1 := by
          rw [show (-1 : Int32) = I (-1) from rfl]
          exact I_eq (by omega) (by omega) (by omega) (by omega)
        refine pk_br (fun q => n132 v _ h1 h2 ?_) (fun q => n132 v _ h1 h2 ?_)
        · rw [cj, if_pos (e.mp (of_decide_eq_true q))]
        · rw [cj, if_neg (fun q2 => of_decide_eq_false q (e.mpr q2)), show (2000 : Int32) = I 2000 from rfl, I_add]
      have n101 : w.2.2.1 23 j = 12 → PK (fun v (_ : Unit) => CLX w cvr fof v n) (fb_M_calls_101 N (gg_M_calls N M) u (I (j : Nat)) (I (fof (A w 25 j) (A w 26 j))) (I (prd (A w 25 j) (A w 26 j)))) := fun h2 => by
        unfold fb_M_calls_101
        exact pk_ck (fun _ => pk_bnd (pk_mo (rule_k (by decide)) (fun v _ q => n113 v (CLX_r hk q.1 q.2.1 q.2.2) h2)))
      refine pk_ck (fun _ => pk_br (fun z12 => ?_) (fun z12 => ?_))
      · have k12 : w.2.2.1 23 j = 12 := of_decide_eq_true z12
        refine pk_ck (fun _ => pk_ck (fun _ => pk_bnd (pk_mo (hF u _ _ (k1.1 52 (by decide) (by decide)) (k1.2.1 47 (by decide)) (k1.2.1 48 (by decide))) (fun u6 r6 h6 => ?_))))
        obtain ⟨e6, h6⟩ := h6
        rw [e6, k1.2.1 25 (by decide), k1.2.1 26 (by decide)]
        refine pk_ck (fun _ => pk_ck (fun _ => pk_bnd (pk_mo (hP u j (by omega) k12 (fun k hk2 => k1.2.1 k (by rintro rfl; revert hk2; decide))) (fun u7 r7 h7 => ?_))))
        obtain ⟨e7, h7⟩ := h7
        rw [e7, h7, show r6 = I (fof (A w 25 j) (A w 26 j)) from h6]
        have n80 : PK (fun v (_ : Unit) => CLX w cvr fof v n) (fb_M_calls_80 N (gg_M_calls N M) u (I (j : Nat)) (I (fof (A w 25 j) (A w 26 j))) (I (prd (A w 25 j) (A w 26 j)))) := by
          unfold fb_M_calls_80
          exact pk_ck (fun _ => pk_br (fun _ => pk_br (fun _ => pk_br (fun _ => n113 u hk k12) (fun _ => n101 k12)) (fun _ => n101 k12)) (fun _ => n113 u hk k12))
        exact pk_br (fun _ => pk_br (fun _ => pk_ck (fun _ => pk_bnd (pk_mo (rule_k (by decide)) (fun v _ q => n113 v (CLX_r hk q.1 q.2.1 q.2.2) k12)))) (fun _ => n80)) (fun _ => n80)
      · have k12 : w.2.2.1 23 j ≠ 12 := of_decide_eq_false z12
        refine pk_ck (fun _ => pk_br (fun z15 => ?_) (fun z15 => nx u (CLX_s hk k12 (of_decide_eq_false z15))))
        have k15 : w.2.2.1 23 j = 15 := of_decide_eq_true z15
        refine pk_ck (fun _ => pk_ck (fun _ => pk_bnd (pk_mo (hF u _ _ (k1.1 52 (by decide) (by decide)) (k1.2.1 47 (by decide)) (k1.2.1 48 (by decide))) (fun u3 r3 h3 => ?_))))
        obtain ⟨e3, h3⟩ := h3
        rw [e3]
        have hk2 := CLX_27 (y := r3) hk (Or.inr k15) (fun q => absurd q k12) (fun _ => h3)
        refine pk_ck (fun _ => pk_ltq (pk_ck (fun _ => ?_)))
        exact pk_br (fun _ => pk_ck (fun _ => pk_bnd (pk_mo (rule_k (by decide)) (fun v _ q => nx v (CLX_r hk2 q.1 q.2.1 q.2.2))))) (fun _ => nx _ hk2)
theorem pre_y (h2 : w.2.2.1 2 = mS0.2.2.1 2) (h : ATf m w0 fa na) (h12 : w.2.2.1 12 = w0.2.2.1 12) (h13 : w.2.2.1 13 = w0.2.2.1 13) (ha : a < na) : PK (fun v r => v = w ∧ r = I (if id36 (ix36 m fa a) y = -1 then -1 else p36 (id36 (ix36 m fa a) y))) (fm_M_predefinedOf N w (I (a : Nat)) y) := by
  obtain ⟨⟨a1, a2, a3, a4, a5⟩, ⟨b1, b2⟩, c1⟩ := h
  have f3 := a3 a ha
  have mono : ∀ d j, j + d = na → fa j ≤ fa na := fun d => by
    induction d with
    | zero => intro j hj; rw [show j = na by omega]; exact Nat.le_refl _
    | succ d ih => intro j hj; exact Nat.le_trans (a3 j (by omega)) (ih (j + 1) (by omega))
  have fna := mono (na - (a + 1)) (a + 1) (by omega)
  have pr := pr_out (N := N) (y := y) h2 ⟨by rw [h13]; exact b2 a (by omega), a4 a (by omega)⟩ ⟨by rw [h13]; exact b2 (a + 1) (by omega), a4 (a + 1) (by omega), f3⟩ (by omega) 30 0 rfl (fun i hi => absurd hi (by omega)) N
  have prr : PK (PRq w fa a y) (fm_M_predefinedOf N w (I (a : Nat)) y) := pr
  refine pk_mo prr (fun v r q => ⟨q.1, ?_⟩)
  have mc : ∀ k, k < 30 → MR36 w fa a y k → MC36 m fa a (sg36 k) := fun k hk q => by
    obtain ⟨p1, p2, p3⟩ := r36 k hk
    refine ⟨q.2.1.trans p1, fun j hj => ?_⟩
    rw [q.2.2 j (by omega), h12]
    exact (c1 _ (by have := q.2.1; omega)).symm
  have mr : ∀ k, k < 30 → MC36 m fa a (sg36 k) → I (npre k : Nat) = y → MR36 w fa a y k := fun k hk q hy => by
    obtain ⟨p1, p2, p3⟩ := r36 k hk
    refine ⟨hy, q.1.trans p1.symm, fun j hj => ?_⟩
    rw [h12, ← c1 _ (by have := q.1; omega)]
    exact q.2 j (by omega)
  have n8 : I ((npre 8 : Nat) : Int) = (2 : Int32) := rfl
  rcases q.2 with ⟨r1, r2⟩ | ⟨k, k1, k2, k3⟩
  · have c0 : id36 (ix36 m fa a) y = -1 := by
      cases e : ix36 m fa a with
      | none => rfl
      | some i =>
        obtain ⟨i2, i1⟩ := ix_lt e
        show (if i = 7 ∧ y = 2 then (29 : Int) else if takL.getD i 0 = y then ((i : Nat) : Int) else -1) = -1
        by_cases z : i = 7 ∧ y = 2
        · exact absurd (mr 8 (by decide) (by rw [show sg36 8 = 7 from rfl, ← z.1]; exact i1) (by rw [n8, z.2])) (r2 8 (by decide))
        · rw [if_neg z]
          by_cases z2 : takL.getD i 0 = y
          · obtain ⟨k, k1, k2, k3, -⟩ := q36 i i2
            exact absurd (mr k k1 (by rw [k3]; exact i1) (by rw [← t36 k k1 k2, k3]; exact z2)) (r2 k k1)
          · rw [if_neg z2]
    rw [c0, if_pos rfl]
    exact r1
  · have hm := mc k k1 k3
    have hs := (r36 k k1).2.1
    rw [ix_s hm hs]
    have ce : id36 (some (sg36 k)) y = if sg36 k = 7 ∧ y = 2 then 29 else if takL.getD (sg36 k) 0 = y then ((sg36 k : Nat) : Int) else -1 := rfl
    rw [ce]
    by_cases z : sg36 k = 7 ∧ y = 2
    · rw [if_pos z, if_neg (by decide), show p36 29 = 8 from rfl]
      have k78 : k = 7 ∨ k = 8 := by
        have := z.1
        unfold sg36 at this
        split at this <;> omega
      rcases k78 with e | e
      · exfalso
        have h7 := k3.1
        rw [e, z.2] at h7
        exact absurd h7 (by decide)
      · rw [k2, e]; rfl
    · rw [if_neg z]
      have k8 : k ≠ 8 := fun e => z (by rw [e]; exact ⟨rfl, by rw [← k3.1, e]; rfl⟩)
      rw [if_pos ((t36 k k1 k8).trans k3.1), if_neg (by omega), k2]
      have e : p36 ((sg36 k : Nat) : Int) = ((k : Nat) : Int) := by
        unfold p36 sg36
        by_cases z2 : k ≤ 7
        · rw [if_pos z2, if_pos (by omega)]
        · rw [if_neg z2, if_neg (by omega), if_neg (by omega)]; omega
      rw [e]
theorem calls_x (h52 : w.1 52 = I (g : Nat)) (hg : g ≤ 666) (h32 : w.1 32 = I (n : Nat)) (hn : n ≤ 100000) (h2 : w.2.2.1 2 = mS0.2.2.1 2) (h : ATf m w fa na) (hx : ∀ i, i < n → w.2.2.1 23 i = 12 → 0 ≤ A w 25 i ∧ A w 25 i < ((na : Nat) : Int)) (ht : ∀ f, f < g → m.2.2.1 24 f = w.2.2.1 47 f ∧ m.2.2.1 25 f = w.2.2.1 48 f) : PK (fun v (_ : Unit) => CLX w (cvX m fa na g) (fofX m g) v n) (fm_M_calls N w) := by
  have pr : ∀ x y, idX m fa na x y = -1 ∨ (0 ≤ idX m fa na x y ∧ idX m fa na x y < 30) := fun x y => id36_r (fun i e => ixI_lt e)
  have na5 := h.1.2.2.2.2
  refine callx_lp (prd := fun x y => if idX m fa na x y = -1 then -1 else p36 (idX m fa na x y)) h32 hn (fun u x y e1 e2 e3 => ?_) (fun u i hi h12 hk => ?_) (fun x y => ?_) (fun x y => ?_) N 0 w (Nat.zero_le _) CLX_0
  · have := fofx_p (N := N) (w := u) (g := g) (x := x) (y := y) (e1.trans h52) (by omega)
    rw [e2, e3] at this
    refine pk_mo this (fun v r q => ⟨q.1, q.2.trans ?_⟩)
    show _ = I (fixI (m.2.2.1 24) (m.2.2.1 25) (I x.toInt) (I y.toInt) g 0)
    rw [← I_of x, ← I_of y, fix_cg (fun i _ hi => ht i (by omega))]
  · obtain ⟨x1, x2⟩ := hx i hi h12
    have e25 : w.2.2.1 25 i = I (((A w 25 i).toNat : Nat) : Int) := by
      rw [Int.toNat_of_nonneg x1]
      exact I_of _
    have := pre_y (N := N) (w := u) (w0 := w) (m := m) (fa := fa) (na := na) (a := (A w 25 i).toNat) (y := w.2.2.1 26 i) (by rw [hk 2 (by decide)]; exact h2) h (hk 12 (by decide)) (hk 13 (by decide)) (by omega)
    rw [← e25] at this
    refine pk_mo this (fun v r q => ⟨q.1, q.2.trans ?_⟩)
    have e : ix36 m fa (A w 25 i).toNat = ixI m fa na (I (A w 25 i)) := by
      unfold ixI
      rw [show (I (A w 25 i)).toInt = A w 25 i from congrArg Int32.toInt (I_of (w.2.2.1 25 i)).symm, if_pos ⟨x1, x2⟩]
    show _ = I (if idX m fa na (A w 25 i) (A w 26 i) = -1 then -1 else p36 (idX m fa na (A w 25 i) (A w 26 i)))
    unfold idX
    rw [← e, show I (A w 26 i) = w.2.2.1 26 i from (I_of _).symm]
  · show -1 ≤ (if idX m fa na x y = -1 then -1 else p36 (idX m fa na x y)) ∧ (if idX m fa na x y = -1 then -1 else p36 (idX m fa na x y)) < 30
    rcases pr x y with e | e
    · rw [if_pos e]; omega
    · rw [if_neg (by omega)]
      have := p36_r e
      omega
  · show cvX m fa na g x y = if (if idX m fa na x y = -1 then -1 else p36 (idX m fa na x y)) = -1 then fofX m g x y else 2000 + (if idX m fa na x y = -1 then -1 else p36 (idX m fa na x y))
    unfold cvX
    rcases pr x y with e | e
    · rw [if_pos e, if_pos e, if_pos rfl]
    · have := p36_r e
      rw [if_neg (by omega : ¬ idX m fa na x y = -1), if_neg (by omega : ¬ idX m fa na x y = -1), if_neg (by omega)]
end
end
section
set_option maxRecDepth 100000
def CLRz (w : MS) (cvr fof : Int → Int → Int) (Y : MS) (n : Nat) : Prop := (∀ k, k ≠ 27 → Y.2.2.1 k = w.2.2.1 k) ∧ Y.2.2.2 = w.2.2.2 ∧ Y.1 52 = w.1 52 ∧ ∀ i, i < n → (w.2.2.1 23 i = 12 → Y.2.2.1 27 i = I (cvr (A w 25 i) (A w 26 i))) ∧ (w.2.2.1 23 i = 15 → Y.2.2.1 27 i = I (fof (A w 25 i) (A w 26 i))) ∧ (w.2.2.1 23 i ≠ 12 → w.2.2.1 23 i ≠ 15 → Y.2.2.1 27 i = w.2.2.1 27 i)
section
variable {m0 w0 m w v Y X : MS} {N T p q n g j k a G : Nat} {Q : Nat → Nat} {nm : Nat → Nat} {fof cvr : Int → Int → Int} {r : Int32} {z : Unit}
theorem grp_ro (h : grp k ∈ [32, 39, 46, 56, 58]) : (23 ≤ k ∧ k ≤ 31) ∨ (33 ≤ k ∧ k ≤ 38) ∨ (40 ≤ k ∧ k ≤ 45) ∨ (53 ≤ k ∧ k ≤ 55) ∨ k = 57 := by
  unfold grp at h
  by_cases h1 : 23 ≤ k ∧ k ≤ 31
  · exact Or.inl h1
  · rw [if_neg h1] at h
    by_cases h2 : 33 ≤ k ∧ k ≤ 38
    · exact Or.inr (Or.inl h2)
    · rw [if_neg h2] at h
      by_cases h3 : 40 ≤ k ∧ k ≤ 45
      · exact Or.inr (Or.inr (Or.inl h3))
      · rw [if_neg h3] at h
        by_cases h4 : 53 ≤ k ∧ k ≤ 55
        · exact Or.inr (Or.inr (Or.inr (Or.inl h4)))
        · rw [if_neg h4] at h
          by_cases h5 : k = 57
          · exact Or.inr (Or.inr (Or.inr (Or.inr h5)))
          · rw [if_neg h5] at h
            exfalso
            split at h
            · exact absurd h (by decide)
            · split at h
              · exact absurd h (by decide)
              · split at h
                · exact absurd h (by decide)
                · exact absurd h (by decide)
theorem ROs_y (h : k = 8 ∨ k = 18 ∨ k = 19 ∨ (23 ≤ k ∧ k ≤ 31) ∨ (33 ≤ k ∧ k ≤ 45) ∨ (47 ≤ k ∧ k ≤ 57)) : ROs Y k n = A Y k n := if_pos h
theorem CLRz_of (h : CLX X cvr fof Y n) (e : X.2 = w.2) (e52 : X.1 52 = w.1 52) : CLRz w cvr fof Y n := by
  obtain ⟨x1, x2⟩ := X
  obtain ⟨w1, w2⟩ := w
  have e : x2 = w2 := e
  subst e
  exact ⟨h.1.2.1, h.2.1.1, (h.1.1 52 (by decide) (by decide)).trans e52, h.2.2⟩
theorem FNx_top (hR : XRn w0 T w p Q) (hK : CLRz w cvr fof Y n) (h32 : w.1 32 = I (n : Nat)) (hn : n ≤ 100000) (hc : ∀ x y, -2147483648 ≤ cvr x y ∧ cvr x y < 2147483648) (hf : ∀ x y, -2147483648 ≤ fof x y ∧ fof x y < 2147483648) : FNx w0 fof cvr (A m 23) (A m) (ROs Y) (Y.2.2.2 34) m w 1 a 0 q Q00 Q false [] [] [] := by
  obtain ⟨k2, l1, -, d⟩ := hK
  have q32 : Q 32 = n := by
    have e := hR.2.2.2.2 32 (by decide)
    have := (I_eq (x := (Q 32 : Nat)) (y := (n : Nat)) (by omega) (by omega) (by omega) (by omega)).mp (e.1.symm.trans h32)
    omega
  have yA : ∀ k n, k ≠ 27 → A Y k n = A w k n := fun k n hk => by
    show (Y.2.2.1 k n).toInt = _
    rw [k2 k hk]; rfl
  have y23 : ∀ n, ROs Y 23 n = A w 23 n := fun n => by rw [ROs_y (by omega), yA 23 n (by decide)]
  have cI : ∀ (c : Int) (i : Nat), -2147483648 ≤ c → c < 2147483648 → (A w 23 i = c ↔ w.2.2.1 23 i = I c) := fun c i h1 h2 => by
    constructor
    · intro e
      exact (I_of _).trans (congrArg I e)
    · intro e
      show (w.2.2.1 23 i).toInt = c
      rw [e]; exact I_ti h1 h2
  refine ⟨fun k _ _ _ => rfl, fun _ _ _ _ _ _ => rfl, fun k i hk => ?_, ⟨fun k i h1 h2 h3 h4 hg _ _ _ => ?_, fun i _ hi h1 h2 => ?_, fun i _ _ => ?_, fun i _ _ => by rw [l1]⟩, fun i _ hi => ⟨fun h => ?_, fun h => ?_⟩⟩
  · rw [ROs_y (by omega), yA k i (by omega)]
    show (w.2.2.1 k i).toInt = (w0.2.2.1 k i).toInt
    rw [hR.1.2 k (by unfold TRW; rcases hk with rfl | rfl | rfl <;> decide)]
  · have := grp_ro hg
    rw [ROs_y (by omega), yA k i h1]
  · rw [y23] at h1 h2
    rw [ROs_y (by omega)]
    show (Y.2.2.1 27 i).toInt = (w.2.2.1 27 i).toInt
    rw [(d i (by omega)).2.2 (fun e => h1 ((cI 12 i (by decide) (by decide)).mpr e)) (fun e => h2 ((cI 15 i (by decide) (by decide)).mpr e))]
  · rw [if_neg (fun h => by cases h.1), ROs_y (by omega), yA 30 i (by decide)]
  · rw [y23] at h
    rw [ROs_y (by omega), ROs_y (by omega), ROs_y (by omega), yA 25 i (by decide), yA 26 i (by decide)]
    show (Y.2.2.1 27 i).toInt = _
    rw [(d i (by omega)).1 ((cI 12 i (by decide) (by decide)).mp h)]
    exact I_ti (hc _ _).1 (hc _ _).2
  · rw [y23] at h
    rw [ROs_y (by omega), ROs_y (by omega), ROs_y (by omega), yA 25 i (by decide), yA 26 i (by decide)]
    show (Y.2.2.1 27 i).toInt = _
    rw [(d i (by omega)).2.1 ((cI 15 i (by decide) (by decide)).mp h)]
    exact I_ti (hf _ _).1 (hf _ _).2
theorem tabs_x (hP : PGZ m0 w0 T nm fof cvr G q m r w z) (hK : CLRz w cvr fof Y n) (h32 : w.1 32 = I (n : Nat)) (hn : n ≤ 100000) (hc : ∀ x y, -2147483648 ≤ cvr x y ∧ cvr x y < 2147483648) (hf : ∀ x y, -2147483648 ≤ fof x y ∧ fof x y < 2147483648) (h442 : m0.1 442 = I (G : Nat)) (hG : G ≤ 666) (h449 : m0.1 449 = I (q : Nat)) (hq : q ≤ 400) : (FTs m Y ∧ FAr m Y ∧ FUs m Y) ∧ F m 442 = F Y 52 := by
  obtain ⟨a, Q, fr, -, -, ⟨-, i449⟩, ⟨hR, -⟩, h52, hM⟩ := hP
  obtain ⟨o1, o2⟩ := hM _ _ _ _ (FNx_top (m := m) (a := a) (q := q) hR hK h32 hn hc hf)
  have f442 : F m 442 = ((G : Nat) : Int) := by
    unfold F
    rw [fr.1 442 (by omega), h442]
    exact I_ti (by omega) (by omega)
  have f449 : F m 449 = ((q : Nat) : Int) := by
    unfold F
    rw [i449, h449]
    exact I_ti (by omega) (by omega)
  have yA : ∀ k n, k ≠ 27 → A Y k n = A w k n := fun k n hk => by
    show (Y.2.2.1 k n).toInt = _
    rw [hK.1 k hk]; rfl
  have tA : ∀ {v : MS} {k i : Nat} {x : Nat}, v.2.2.1 k i = I (x : Nat) → x < 100000 → A v k i = ((x : Nat) : Int) := fun {v k i x} e hx => by
    show (v.2.2.1 k i).toInt = _
    rw [e]; exact I_ti (by omega) (by omega)
  refine ⟨⟨fun f hf => ?_, fun f hf => ?_, fun u hu => ?_⟩, ?_⟩
  · rw [f442] at hf
    obtain ⟨e, k1, x1, x2, x3, x4, x5, g2, x6⟩ := o2 f (by omega)
    exact ⟨by omega, e, k1, tA x1 (by omega), by rw [yA 50 f (by decide)]; exact tA x3 (by omega), g2, g2, x6⟩
  · rw [f442] at hf
    obtain ⟨e, k1, x1, x2, x3, x4, x5, -⟩ := o2 f (by omega)
    rw [yA 48 f (by decide)]
    show (m.2.2.1 25 f).toInt = (w.2.2.1 48 f).toInt
    rw [x5, fr.2 25 (by omega)]
  · rw [f449] at hu
    have hu' : u < q := by omega
    obtain ⟨ar, e, ad, L, c, H, y1, y2, y3, y4, y5, y6, y7, y8, y9, y10, y11, y12, y13⟩ := o1 u hu'
    rw [ROs_y (by omega)] at y9 y11 y12
    exact ⟨by omega, ar, e, ad, L, c, H, y1, y2, y3, y4, y5, y6, y7, y8, y9, y10, y11, y12, y13⟩
  · rw [f442]
    unfold F
    rw [hK.2.2.1, h52]
    exact (I_ti (by omega) (by omega)).symm
end
end
section
set_option maxRecDepth 100000
def CPRw (u w : MS) (r : Int32) : Prop := KM2 u w ∧ CW0 w ∧ (r = 0 → F w 441 ≤ 23990)
section
variable {u v w u12 m x v0 : MS} {N lv t hi lo o q r s c h g d a b k n f Q z la cl cc p q1 b1 TN SN T : Nat} {ps bw : Nat → Nat}
theorem compileW_ok {B : Nat → Nat × Nat × Nat} (hN : 1000000000 ≤ N) (hx : CMX u cc ps (B g).2.2) (hg : g ≤ 666) (h42 : F u 442 = ((g : Nat) : Int)) (b0 : B 0 = (0, 0, 0)) (hB : ∀ i, i < g → FNst u i (B i) (B (i + 1))) (hp : (B g).1 ≤ cc) (hn : (B g).2.1 ≤ 8000) : ∀ (M i : Nat) (v : MS), i ≤ g → g + 1 ≤ M + i → KM2 u v → CW0 v → (F v 711 = 0 → F v 441 ≤ 1 + WBc ps 0 (B i).1) → (GDc v (B i).1 (B i).2.2 → ALP v i (szc v) (B i).2.2) → OK (fun w r => CPRw u w r) (hg_Cm_compile N M v (I ((i : Nat) : Int))) := by
  intro M
  induction M with
  | zero => intro i v h1 h2; omega
  | succ M ih =>
    intro i v hi hM km cw hW hA
    have c4 := hx.1.2.1.2
    have mg := B_mono hB i (g - i) (by omega)
    have m0 := B_mono hB 0 g (by omega)
    rw [show i + (g - i) = g by omega] at mg
    rw [Nat.zero_add, b0] at m0
    have m5 : 5 * (B g).2.2 ≤ (B g).1 := by
      have h5 := m0.2.2.2
      simp only [Nat.mul_zero, Nat.add_zero, Nat.zero_add] at h5
      exact h5
    have v42 : F v 442 = ((g : Nat) : Int) := by rw [km.F (by simp)]; exact h42
    show OK _ (hb_Cm_compile_23 N (hg_Cm_compile N M) v (I ((i : Nat) : Int)))
    unfold hb_Cm_compile_23
    rw [I_F (k := 442), v42]
    refine k_le ⟨by omega, by omega⟩ ⟨by omega, by omega⟩ (fun z => ?_) (fun z => ?_)
    · have ei : i = g := by omega
      subst ei
      have e8 : ∀ {t : Int32}, OK (fun w r => CPRw u w r) (hb_Cm_compile_136 N (hg_Cm_compile N M) v) := ok_some.mpr ⟨km, cw, fun z => absurd z (by decide)⟩
      have e119 : OK (fun w r => CPRw u w r) (hb_Cm_compile_119 N (hg_Cm_compile N M) v) := by
        unfold hb_Cm_compile_119 hb_Cm_compile_124
        exact ok_br.mpr ⟨fun z => absurd z (by decide), fun _ => e8 (t := 0)⟩
      refine k_F (y := 1000000000) rfl ⟨by decide, by decide⟩ (fun z14 => ?_) (fun z14 => ?_)
      · rw [show (60 : Int32) = I 60 from rfl, I_F (k := 22), show (200 : Int32) = I 200 from rfl, I_F (k := 85), show (1500 : Int32) = I 1500 from rfl]
        refine k_lt ⟨by decide, by decide⟩ ⟨by omega, by omega⟩ (fun _ => e119) (fun h60 => k_lt ⟨by decide, by decide⟩ (FRG1 v _) (fun _ => e119) (fun h22 => k_le (FRG1 v _) ⟨by decide, by decide⟩ (fun h85 => ?_) (fun _ => e119)))
        unfold hb_Cm_compile_124
        refine ok_br.mpr ⟨fun _ => k_F (y := 0) rfl ⟨by decide, by decide⟩ (fun z11 => ?_) (fun _ => e8 (t := 0)), fun z => absurd z (by decide)⟩
        have h85' : F v 85 ≤ 1500 := h85
        have c85 := hx.1.2.1.1
        rw [km.F (k := 85) (by simp), c85] at h85'
        have wq := hW z11
        have ps1 := ps_le hx.1 (a := 0) (b := (B i).1) (by omega) hp
        have ps2 := ps_le hx.1 (a := (B i).1) (b := cc) hp (Nat.le_refl _)
        have ps3 := hx.1.2.2.2.1
        have w24 : F v 441 ≤ 23990 := by
          unfold WBc at wq
          omega
        exact ok_some.mpr ⟨km, cw, fun _ => w24⟩
      · have c14 := cw.2.1
        rw [I_F (k := 714), div16 (by omega) (by omega)]
        refine e_in ⟨by omega, by omega⟩ (by decide) (ok_some.mpr ⟨km, cw, fun z => ?_⟩)
        exfalso
        rw [show (16 : Int32) = I 16 from rfl, I_mul, I_sub, I_A (k := 8), I_mul, I_add] at z
        refine I_nz ?_ z
        omega
    · obtain ⟨kc, k, first, f1, f2, f3, f4, f5⟩ := hB i (by omega)
      have mi := FNst_hd (hB i (by omega))
      have mg2 := B_mono hB (i + 1) (g - (i + 1)) (by omega)
      rw [show i + 1 + (g - (i + 1)) = g by omega] at mg2
      have xv : CMX v cc ps (B g).2.2 := CMX_k2 hx km
      rw [ok_bnd]
      refine ok_mono (oneFn_ok (N := N) (k := k) hN cw xv (by omega) (RW_k (CLS_k u v) CLS_bd f2 (KN_m2 km)) (by rw [km.A (by simp)]; exact f3) (by rw [km.A (by simp)]; exact f4) f5 f1 (by omega) (by omega) (by omega)) (fun w _ q => ?_)
      obtain ⟨q1, q2, ⟨q3, q4, q5⟩, q6, q7, q8⟩ := q
      rw [lit1q, I_add, show ((i : Nat) : Int) + 1 = ((i + 1 : Nat) : Int) by omega]
      refine ih (i + 1) w (by omega) (by omega) (KM2.tr km q1) q2 (fun z => ?_) (fun gd => ?_)
      · have a1 := q7 z
        have a2 := hW (q5 z)
        have wb := WB_2 hx.1 (lo := 0) (m := (B i).1) (lo2 := (B i).1) (hi := (B (i + 1)).1) (by omega) (by omega) (by omega) (by omega)
        omega
      · obtain ⟨o1, e29, sl, sg⟩ := q8 gd
        have c14 := cw.2.1
        have av := hA ⟨by have := gd.1; omega, q5 gd.2.1, by have := gd.2.2.1; omega, by have := gd.2.2.2.1; omega, by have := gd.2.2.2.2; omega⟩
        have cvr := cw.1
        have sv : ((szc v : Nat) : Int) ≤ F v 441 := by show (((F v 441).toNat : Nat) : Int) ≤ _; omega
        have s1 : 1 ≤ szc v := by show 1 ≤ (F v 441).toNat; omega
        exact ALP_s av q1 sv o1 q6 sg e29 (by rw [q1.A (by simp), km.A (by simp)]; exact f4) sl s1
theorem cmpW_ok (hN : 1000000000 ≤ N) (s12 : STA u12) (c12 : CST u12) (r12w : WRS u12) (tk12 : TKS u12 c ps) (e441 : F u12 441 = 1) (hp : PFI v0 u12 c g c n q) : OK (fun w r => r = 0 → F w 441 ≤ 23990) (hm_Cm_compile N u12) := by
  obtain ⟨-, psi, h42, h6, fns⟩ := hp
  obtain ⟨-, ⟨-, -⟩, ⟨-, hn⟩, h449, -⟩ := psi
  have c4 := tk12.1.2
  unfold hm_Cm_compile hb_Cm_compile_0
  refine ok_lt.mpr (ok_lt.mpr (ok_lt.mpr (ok_lt.mpr ?_)))
  rw [lit0q, wi_e, wi_e, wi_e, show (1000000000 : Int32) = I 1000000000 from rfl, wi_e]
  have fs : FR [714, 711, 712, 713] [] [] [] u12 (wi (wi (wi (wi u12 714 1000000000) 711 0) 712 0) 713 0) := FR.wi (FR.wi (FR.wi (FR.wi FR.rf (by simp)) (by simp)) (by simp)) (by simp)
  have d14 : F (wi (wi (wi (wi u12 714 1000000000) 711 0) 712 0) 713 0) 714 = 1000000000 := by rw [F_wi (by decide) (by decide), if_neg (by decide), F_wi (by decide) (by decide), if_neg (by decide), F_wi (by decide) (by decide), if_neg (by decide), F_wi (by decide) (by decide), if_pos rfl]
  have d11 : F (wi (wi (wi (wi u12 714 1000000000) 711 0) 712 0) 713 0) 711 = 0 := by rw [F_wi (by decide) (by decide), if_neg (by decide), F_wi (by decide) (by decide), if_neg (by decide), F_wi (by decide) (by decide), if_pos rfl]
  have d12 : F (wi (wi (wi (wi u12 714 1000000000) 711 0) 712 0) 713 0) 712 = 0 := by rw [F_wi (by decide) (by decide), if_neg (by decide), F_wi (by decide) (by decide), if_pos rfl]
  have d13 : F (wi (wi (wi (wi u12 714 1000000000) 711 0) 712 0) 713 0) 713 = 0 := by rw [F_wi (by decide) (by decide), if_pos rfl]
  generalize wi (wi (wi (wi u12 714 1000000000) 711 0) 712 0) 713 0 = s at fs d14 d11 d12 d13
  have cs : CST s := CST_fr fs c12 (by simp) (by simp) (by simp) (by simp)
  have rs : WRS s := WRS_fr fs r12w (by simp) (by simp) (by simp) (by simp)
  have ts : TKS s c ps := TKS_fr fs tk12 (by simp) (by simp)
  have w36 : WDc s 36 := WD_fr fs s12.2.2.1 (by simp) (by simp)
  have sA : ∀ r j, A s r j = A u12 r j := fun r j => FRc_A fs (by simp)
  have s441 : F s 441 = 1 := by rw [FRc_F fs (by simp)]; exact e441
  have s42 : F s 442 = ((g : Nat) : Int) := by rw [FRc_F fs (by simp)]; exact h42
  have fn2 : FNSc s g c n q := FNS_k (fs.2.2.1 6 (by simp)) (fs.2.2.1 7 (by simp)) (fun k _ => ⟨sA _ _, sA _ _, sA _ _, sA _ _, sA _ _, sA _ _⟩) (fun f _ => ⟨sA _ _, sA _ _, sA _ _⟩) fns
  obtain ⟨B, b0, b1, b2⟩ := FNS_B fn2
  have xs : CMX s c ps (B g).2.2 := ⟨⟨cs, ts⟩, ⟨w36, rs.1.1⟩, by rw [s42]; omega, by rw [FRc_F fs (by simp), h449, b1]⟩
  have cw : CW0 s := ⟨by rw [s441]; omega, by rw [d14]; omega, Or.inl d11, ⟨d12, d13⟩, fun j hj => by rw [sA, sA]; exact s12.2.2.2.1 j hj⟩
  have sz : szc s = 1 := by show (F s 441).toNat = 1; rw [s441]; rfl
  rw [← lit0q, lit0q]
  refine ok_mono (compileW_ok (N := N) hN xs (by omega) s42 b0 b2 (by rw [b1]; exact Nat.le_refl _) (by rw [b1]; show n ≤ 8000; omega) N 0 s (by omega) (by omega) FR.rf cw (fun _ => by rw [s441, b0]; unfold WBc; omega) (fun _ => by rw [sz, b0]; exact ALP_0)) (fun w r cp e => ?_)
  exact cp.2.2 e
theorem jm_of (hN : 1000000000 ≤ N) {m : MS} (ca : PK (fun v r => CAC v r) (hm_Cm_compile N u)) (cw : PK (fun v r => r = 0 → F v 441 ≤ 23990) (hm_Cm_compile N u)) (e : hm_Cm_compile N u = some (m, 0)) : jm_Cm_compile N u = some (m, 0) := by
  obtain ⟨c1, c2, -⟩ := ca m 0 e rfl
  have c3 := cw m 0 e rfl
  refine yj_compile e ⟨?_, c2, ?_⟩
  · rw [c1]; decide
  · have := F_r m 441
    rw [I_F (k := 441)]
    exact (I_le (x := F m 441) (y := (23990 : Int)) (by omega) (by omega) (by omega) (by omega)).mpr c3
end
end
section
set_option maxRecDepth 100000
section
variable {u : CS} {m0 m w : MS} {n : TN} {bad : Bool} {K : Nat → Nat} {SN : Nat}
theorem sts_e {g : Nat → Int32} {k : Nat} : ∀ m p i len, sts g k m p i = some len → i ≤ len ∧ (∀ j, j < len - i → sgA g k (p + j) ≠ 34 ∧ ¬ (sgA g k (p + j) < 32 ∨ 126 < sgA g k (p + j))) ∧ sgA g k (p + (len - i)) = 34
  | 0, _, _, _, h => by cases h
  | m + 1, p, i, len, h => by
    have e : sts g k (m + 1) p i = if sgA g k p = 34 then some i else if sgA g k p < 32 ∨ 126 < sgA g k p then none else sts g k m (p + 1) (i + 1) := rfl
    rw [e] at h
    by_cases h1 : sgA g k p = 34
    · rw [if_pos h1] at h
      injection h with h
      subst h
      exact ⟨Nat.le_refl _, fun j hj => absurd hj (by omega), by rw [show p + (i - i) = p by omega]; exact h1⟩
    · rw [if_neg h1] at h
      by_cases h2 : sgA g k p < 32 ∨ 126 < sgA g k p
      · rw [if_pos h2] at h; cases h
      · rw [if_neg h2] at h
        obtain ⟨a, b, c⟩ := sts_e m (p + 1) (i + 1) len h
        refine ⟨by omega, fun j hj => ?_, ?_⟩
        · by_cases z : j = 0
          · subst z; exact ⟨h1, h2⟩
          · have := b (j - 1) (by omega)
            rw [show p + 1 + (j - 1) = p + j by omega] at this
            exact this
        · rw [show p + 1 + (len - (i + 1)) = p + (len - i) by omega] at c
          exact c
theorem pr_255 {x : Int32} (hx : nrB x = x) (h : ¬ (x &&& 255 < 32 ∨ 126 < x &&& 255)) : x &&& 255 = x := by
  have := sg_all (fun x => (decide (x &&& 255 < 32) || decide (126 < x &&& 255)) || decide (x &&& 255 = x)) (by decide +kernel) hx
  have this : ((decide (x &&& 255 < 32) || decide (126 < x &&& 255)) || decide (x &&& 255 = x)) = true := this
  rw [decide_eq_false (fun z => h (Or.inl z)), decide_eq_false (fun z => h (Or.inr z))] at this
  exact of_decide_eq_true this
theorem tk_cv (R : RS m u) (h : TOKS u w n bad) (hb : n.fs n.ns ≤ n.k ∧ 2 * n.ns ≤ n.k) (hs : STR w SN) (h5 : ∀ p, p < n.i → A w 6 p = 5 → 0 ≤ A w 7 p ∧ A w 7 p < ((SN : Nat) : Int)) (hA : CTA m w K n.i) (hK : ∀ p, p < n.i → K p = (m.2.2.1 6 p).toNatClampNeg) (hln : ∀ j, j ≤ n.i → m.2.2.1 8 j = w.2.2.1 8 j) (k7 : m0.2.2.1 7 = m.2.2.1 7 ∧ m0.2.2.1 8 = m.2.2.1 8 ∧ m0.2.2.1 5 = m.2.2.1 5) (k81 : m0.1 81 = m.1 81) : CTV m0 w K n.i := by
  have hk := h.k4
  have r5 : AI u 5 = m.2.2.1 5 := R.2.2.2.1 5 (by decide)
  have r6 : AI u 6 = m.2.2.1 6 := R.2.2.2.1 6 (by decide)
  have r7 : AI u 7 = m.2.2.1 7 := R.2.2.2.1 7 (by decide)
  intro p hp
  refine ⟨by rw [k7.2.1]; exact hln p (by omega), fun q => by rw [k7.1]; exact hA p hp q, fun q => ?_⟩
  have kv := (h.tk p hp).1
  rw [r5, r6, r7] at kv
  have k4 : (m.2.2.1 6 p).toNatClampNeg = 4 := by rw [← hK p hp]; exact q
  have ne : ∀ c : Int32, c.toNatClampNeg ≠ 4 → m.2.2.1 6 p ≠ c := fun c hc e => hc (by rw [← e]; exact k4)
  have kv4 : ∃ r t len, w.2.2.1 6 p = 5 ∧ r < n.ns ∧ w.2.2.1 7 p = Int32.ofNat r ∧ m.2.2.1 7 p = Int32.ofNat t ∧ len ≤ 40 ∧ n.fs (r + 1) = n.fs r + len ∧ t + len < n.k ∧ sts (m.2.2.1 5) n.k 41 t 0 = some len ∧ ∀ j, j < len → w.2.2.1 18 (n.fs r + j) = m.2.2.1 5 (t + j) := by
    rcases kv with ⟨a, b, c⟩ | ⟨a, b, r, hr, c, d⟩ | ⟨a, b, r, hr, c, d⟩ | ⟨a, b, r, t, len, z⟩ | ⟨a, r, hr, b, c⟩ | ⟨a, m', hm, b, c⟩
    · exact absurd a (ne _ (by decide))
    · exact absurd a (ne _ (by decide))
    · exact absurd a (ne _ (by decide))
    · exact ⟨r, t, len, b, z⟩
    · refine absurd b (ne _ ?_)
      rw [oI, tnI (n := 5 + r) rfl (by omega)]; omega
    · refine absurd b (ne _ ?_)
      show (Int32.ofNat (20 + m')).toNatClampNeg ≠ 4
      rw [oI, tnI (n := 20 + m') rfl (by omega)]; omega
  obtain ⟨r, t, len, s5, hr, e7, m7, hl, hf, htl, hst, h18⟩ := kv4
  obtain ⟨-, sg, se⟩ := sts_e 41 t 0 len hst
  have fsr : n.fs (r + 1) ≤ n.k := Nat.le_trans (h.sm r hr) hb.1
  have a6 : A w 6 p = 5 := by show (w.2.2.1 6 p).toInt = 5; rw [s5]; rfl
  have hrS : r < SN := by
    have := (h5 p hp a6).2
    have e : A w 7 p = (Int32.ofNat r).toInt := by show (w.2.2.1 7 p).toInt = _; rw [e7]
    rw [e, oI, I_ti (by omega) (by omega)] at this
    omega
  have a19 : ∀ j, j ≤ n.ns → n.fs j ≤ 4000 → A w 19 j = ((n.fs j : Nat) : Int) := fun j hj h4 => by
    show (w.2.2.1 19 j).toInt = _
    rw [h.sf j hj, oI]; exact I_ti (by omega) (by omega)
  have s1 := hs.1
  refine ⟨t, r, n.fs r, len, by rw [k7.1, m7]; exact oI, by rw [e7]; exact oI, by omega, a19 r (by omega) (by omega), by rw [a19 (r + 1) (by omega) (by omega), hf], hl, by omega, fun N m2 k fr hk2 => ?_, fun _ N m2 fr => ?_⟩
  · have x81 : m2.1 81 = I (n.k : Nat) := by
      rw [fr.1 81 (by omega), k81]
      have := R.2.1 4 1 (by decide) (by decide)
      rw [h.cu] at this
      exact this.symm.trans oI
    have x5 : m2.2.2.1 5 = m.2.2.1 5 := (fr.2 5 (by omega)).trans k7.2.2
    have sk := sg k (by omega)
    rw [show sgA (m.2.2.1 5) n.k (t + k) = m.2.2.1 5 (t + k) &&& 255 from if_pos (by omega)] at sk
    refine ⟨m.2.2.1 5 (t + k) &&& 255, ?_, sk.1, ?_⟩
    · unfold hm_To_signAt hb_To_signAt_0 hb_To_signAt_26
      rw [show decide (I ((t + k : Nat) : Int) < (0 : Int32)) = false from decide_eq_false (fun z => absurd ((I_lt (x := ((t + k : Nat) : Int)) (y := (0 : Int)) (by omega) (by omega) (by omega) (by omega)).mp z) (by omega)), br_fq, x81, decide_eq_true ((I_lt (x := ((t + k : Nat) : Int)) (y := ((n.k : Nat) : Int)) (by omega) (by omega) (by omega) (by omega)).mpr (by omega)), br_tq, (I_inb (x := ((t + k : Nat) : Int)) (n := 4000) (by omega) (by omega)).mpr ⟨by omega, by omega⟩, tnI (n := t + k) rfl (by omega), x5]
      rfl
    · have nb := h.bu (t + k) (by omega)
      rw [r5] at nb
      rw [pr_255 nb sk.2, ← h18 k hk2]
      rfl
  · have x81 : m2.1 81 = I (n.k : Nat) := by
      rw [fr.1 81 (by omega), k81]
      have := R.2.1 4 1 (by decide) (by decide)
      rw [h.cu] at this
      exact this.symm.trans oI
    have x5 : m2.2.2.1 5 = m.2.2.1 5 := (fr.2 5 (by omega)).trans k7.2.2
    rw [show t + (len - 0) = t + len by omega, show sgA (m.2.2.1 5) n.k (t + len) = m.2.2.1 5 (t + len) &&& 255 from if_pos (by omega)] at se
    unfold hm_To_signAt hb_To_signAt_0 hb_To_signAt_26
    rw [show decide (I ((t + len : Nat) : Int) < (0 : Int32)) = false from decide_eq_false (fun z => absurd ((I_lt (x := ((t + len : Nat) : Int)) (y := (0 : Int)) (by omega) (by omega) (by omega) (by omega)).mp z) (by omega)), br_fq, x81, decide_eq_true ((I_lt (x := ((t + len : Nat) : Int)) (y := ((n.k : Nat) : Int)) (by omega) (by omega) (by omega) (by omega)).mpr (by omega)), br_tq, (I_inb (x := ((t + len : Nat) : Int)) (n := 4000) (by omega) (by omega)).mpr ⟨by omega, by omega⟩, tnI (n := t + len) rfl (by omega), x5, se]
    rfl
end
end
section
set_option maxRecDepth 100000
section
variable {u : CS} {m w m2 w2 : MS} {N : Nat} {c : Nat → Nat} {r s : Int32}
theorem bnd_sm {α β : Type} {x : Option (MS × α)} {f : MS → α → Option β} {r : β} (h : bnd x f = some r) : ∃ u v, x = some (u, v) ∧ f u v = some r := by
  cases x with
  | none => cases h
  | some x => exact ⟨x.1, x.2, rfl, h⟩
theorem cvX_r {m : MS} {fa : Nat → Nat} {na g : Nat} {x y : Int} (hg : g ≤ 666) : (-1 ≤ cvX m fa na g x y ∧ cvX m fa na g x y < 2030) ∧ (-1 ≤ fofX m g x y ∧ fofX m g x y < 2000) := by
  have f1 : -1 ≤ fofX m g x y ∧ fofX m g x y < 2000 := by
    have := fix_r (p := m.2.2.1 24) (q := m.2.2.1 25) (x := I x) (y := I y) (d := g) (j := 0)
    unfold fofX
    rcases this with e | ⟨i, e, -, hi⟩
    · rw [e]; omega
    · rw [e]; omega
  refine ⟨?_, f1⟩
  unfold cvX
  by_cases z : idX m fa na x y = -1
  · rw [if_pos z]; omega
  · rw [if_neg z]
    have i1 := id36_r (y := I y) (o := ixI m fa na (I x)) (fun i e => ixI_lt e)
    have i2 : 0 ≤ idX m fa na x y ∧ idX m fa na x y < 30 := i1.resolve_left z
    have := p36_r i2
    omega
theorem read_t (hN : 1000000000000000 ≤ N) (R : RP none c m u) (i1 : INVc m) (i2 : INV w) (z : RZf m w) (ec : hm_H_read N m = some (m2, r)) (ew : fm_M_read N w = some (w2, s)) (h10 : m2.1 10 = 1) : (FTs m2 w2 ∧ FAr m2 w2 ∧ FUs m2 w2) ∧ F m2 442 = F w2 52 ∧ (ATM w2 ∧ 22 ≤ F w2 14 ∧ ∀ j, j ≤ 22 → A w2 13 j = ((fa0 j : Nat) : Int)) ∧ m2.1 85 = w2.1 9 := by
  have z86 : w2.1 86 = 1 := by
    rcases (read_z hN R i1 i2 z ec ew).2.2.2.2 with q | q
    · rw [q.1] at h10; exact absurd h10 (by decide)
    · exact q.2.1
  obtain ⟨z1, z2, z3, z4, z5⟩ := z
  have h5 := i2.1
  obtain ⟨byt, tbs, tb0, k44, k49⟩ := i2.2.1
  have sta := i1.1
  have f0 := rdS_FR (u := w)
  have s0 : ∀ k, k ∈ [3, 86, 87, 67, 72, 71, 83, 75, 77, 65] → F (rdS w) k = 0 := fun k hk => rdS_0 hk
  have v5 : F (rdS w) 5 = F w 5 := f0.F (by decide)
  have vA : ∀ k, k ∉ [60, 63] → (rdS w).2.2.1 k = w.2.2.1 k := fun k hk => f0.2.2.1 k hk
  obtain ⟨k, hk⟩ : ∃ k : Nat, F m 81 = ((k : Nat) : Int) := ⟨(F m 81).toNat, by omega⟩
  have k4 : k ≤ 4000 := by omega
  have tt : TT u (rdS w) k := by
    refine ⟨?_, ?_, fun j hj => ?_⟩
    · rw [R.1.2.1 4 1 (by decide) (by decide), I_F' (k := 81) hk]; exact oI.symm
    · rw [I_F' (k := 5) (v5.trans (z1.symm.trans hk))]; exact oI.symm
    · rw [R.1.2.2.2.1 5 (by decide), vA 4 (by decide)]
      exact z2 j (by omega)
  have tp : TP u (rdS w) := TP_RS R.1 (TPf_k z3 rfl (fun _ _ => rfl) (fun j hj => vA j (by revert hj; simp only [List.mem_cons, List.not_mem_nil, or_false]; omega)))
  have bu : bytB (AI u 5) := fun j hj => by rw [R.1.2.2.2.1 5 (by decide)]; exact nrB_fit (sta.1.2.1 j hj)
  have bw : bytB ((rdS w).2.2.1 4) := fun j _ => by rw [vA 4 (by decide)]; exact nrB_id (byt j)
  obtain ⟨u2, w13, n, bad, e1, e2, toks, nk, frC, frM, hfs⟩ := tokens_both (N := N) R.1.1 tt k4 bu bw tp (by omega)
  obtain ⟨m9, x9, e9, f9, c9, r9, cc, ps, tks⟩ := scanAll_ok (N := N) sta.1 sta.2.1 (by omega)
  cases x9
  obtain ⟨c2, u2', a9, e9', R9, -, -⟩ := ym_To_scanAll (N := N) R m9 () e9
  have eu : u2' = u2 := by
    rw [e1] at e9'
    injection e9' with e9'
    injection e9' with e9' _
    exact e9'.symm
  subst eu
  have ts1 : TBS (rdS w) := ⟨fun i hi => by rw [f0.A (by decide)]; exact tbs.1 i hi, fun k hk => by rw [f0.A (by decide)]; exact tbs.2.1 k hk, ⟨fun k hk => by rw [f0.A (by decide)]; exact tbs.2.2.1.1 k hk, fun k hk => by rw [f0.A (by decide)]; exact tbs.2.2.1.2 k hk⟩, fun k hk => by rw [f0.A (k := 2) (by decide), f0.A (k := 2) (by decide)]; exact tbs.2.2.2 k hk⟩
  have z01 : TB0 (rdS w) := ⟨by rw [f0.A (by decide)]; exact tb0.1, by rw [f0.A (by decide)]; exact tb0.2.1, by rw [f0.A (by decide)]; exact tb0.2.2⟩
  have rt : RTQ (rdS w) w13 := by
    obtain ⟨w', r', e', q⟩ := readTokens_ok (N := N) (by omega) (by omega) (fun i => by rw [f0.A (by decide)]; exact byt i) ts1 z01
    rw [e2] at e'
    injection e' with e'
    injection e' with e' _
    rw [e']
    exact q
  obtain ⟨f1, zw, aw, w22, TN, SN, bwf, tk, w9, stw⟩ := rt
  have wF : ∀ k, k ∈ [3, 86, 87, 67, 72, 71, 83, 75, 77, 65] → F w13 k = 0 := fun k hk => by
    have : ∀ k, k ∈ [3, 86, 87, 67, 72, 71, 83, 75, 77, 65] → k ∉ [9, 10, 11, 14, 17, 20] := by decide
    rw [f1.F (this k hk)]; exact s0 k hk
  have w0 : ∀ k, k ∈ [3, 86, 87, 67, 72, 71, 83, 75, 77, 65] → w13.1 k = 0 := fun k hk => I_F' (wF k hk)
  have tbw : TBL w13 := fun k hk => by rw [f1.A (k := 2) (by decide), f1.A (k := 2) (by decide)]; exact ts1.2.2.2 k hk
  have k44w : K44 w13 := fun i => by rw [f1.A (by decide), f0.A (by decide)]; exact k44 i
  have k49w : K49 w13 := fun i => by rw [f1.A (by decide), f0.A (by decide)]; exact k49 i
  obtain ⟨cz, ca, kT, k2, hln⟩ := tk_of R9.1 toks tk.2.2.1.2.1
  have at9 : ATf m9 w13 n.fa n.na := by
    obtain ⟨⟨a1, a2, a3, a4, a5⟩, ⟨b1, b2, b3, b4, b5⟩, b6, b7⟩ := toks.atm
    refine ⟨⟨?_, fun j hj => ?_, a3, a4, a5⟩, ⟨b6.trans oI, fun j hj => (b4 j hj).trans oI⟩, fun j hj => ?_⟩
    · have := R9.1.2.1 1 2 (by decide) (by decide)
      rw [a1] at this
      exact this.symm.trans oI
    · rw [← R9.1.2.2.2.1 3 (by decide)]; exact (a2 j hj).trans oI
    · rw [← R9.1.2.2.2.1 2 (by decide)]; exact b7 j hj
  have c36 : CW36 m9 := CW36_k z4 (f9.1 722 (by decide)) (f9.2.2.1 37 (by decide)) (f9.2.2.1 38 (by decide))
  have s9 : STA m9 := STA_fr sta f9 c9 (WR0_of r9) (fun j hj => by rw [FRc_A f9 (by simp), FRc_A f9 (by simp)]; exact sta.2.2.2.1 j hj) (by simp) (by simp)
  have F14 : F w13 14 = ((n.na : Nat) : Int) := by
    have := at9.1.2.2.2.2
    unfold F
    rw [at9.2.1.1]
    exact I_ti (by omega) (by omega)
  have m85 : m9.1 85 = I (n.i : Nat) := by
    have := R9.1.2.1 4 5 (by decide) (by decide)
    rw [toks.iu] at this
    exact this.symm.trans oI
  have na21 := at9.1.2.2.2.2
  have th : TKH N m9 w13 (fun p => (m9.2.2.1 6 p).toNatClampNeg) n.i (nmQ n.q) (fun p => (w13.2.2.1 7 p).toNatClampNeg) (fun x y => cl36 (ix36 m9 n.fa x.toNatClampNeg) y) := by
    have pdf : ∀ a : Nat, a < n.na → ∀ y, PDF N m9 w13 (I (a : Nat)) y (cl36 (ix36 m9 n.fa (I (a : Nat)).toNatClampNeg) y) := fun a ha y => by
      rw [tnI (n := a) rfl (by omega)]
      exact pdf_all (by omega) c36 at9 s9.2.2.1 r9.1.1 toks.co.2.2.2.2.2.2.2 ha
    refine ⟨cz, ca, fun j hj h2 a ha => ?_, fun a ha y => pdf a (by omega) y, at9.1.1.trans at9.2.1.1.symm, fun h0 => ?_, m85⟩
    · obtain ⟨r, hr, e⟩ := k2 j hj h2
      rw [e]
      exact pdf r hr _
    · have h0 : (m9.2.2.1 6 n.i).toNatClampNeg = 0 := h0
      rw [h0] at kT
      have bf : bad = false := by
        cases bad
        · rfl
        · exact absurd kT (by decide)
      have e9w : w13.1 9 = I (n.i : Nat) := by rw [toks.m9, bf]; exact oI
      rw [m85, e9w]
  have ccE : cc = n.i := by
    have a := tks.1.1
    have b : F m9 85 = ((n.i : Nat) : Int) := by
      have := toks.ik
      have := toks.k4
      unfold F
      rw [m85]
      exact I_ti (by omega) (by omega)
    omega
  subst ccE
  have tkk : TKKc m9 n.i := ⟨tks.1.2, tks.2.1, fun t ht => by
    obtain ⟨k, k1, k2⟩ := tks.2.2.2.2 t ht
    have := k2.1
    omega⟩
  have pkC := pk_ok (parse_okc (N := N) tkk (by omega))
  have fr12 : ∀ {m12 : MS}, KPH (wi m9 441 1) m12 → FR [441, 306, 442, 449, 664, 665, 666, 667] [] [16, 17, 18, 19, 20, 21, 24, 25, 26, 27, 28, 34] [] m9 m12 := fun kp => FR.tr (FR.wi FR.rf (by simp)) (FR.mo kp (by simp) (by simp) (by simp) (by simp))
  have k1 : ∀ {m12 : MS}, KPH (wi m9 441 1) m12 → (∀ k, k < 300 → m12.1 k = m9.1 k) ∧ (∀ k, k < 15 ∨ (36 ≤ k ∧ k ≤ 38) → m12.2.2.1 k = m9.2.2.1 k) ∧ ∀ k, 720 ≤ k → k < 740 → m12.1 k = m9.1 k := fun kp => by
    have f := fr12 kp
    exact ⟨fun k hk => f.1 k (by simp only [List.mem_cons, List.not_mem_nil, or_false]; omega), fun k hk => f.2.2.1 k (by simp only [List.mem_cons, List.not_mem_nil, or_false]; omega), fun k h1 h2 => f.1 k (by simp only [List.mem_cons, List.not_mem_nil, or_false]; omega)⟩
  have k2w : ∀ {w14 : MS}, PRO w13 w14 → ((∀ k, k ∈ [9, 10, 11, 14, 17, 20] → w14.1 k = w13.1 k) ∧ ∀ k, k ∈ TRW → w14.2.2.1 k = w13.2.2.1 k) ∧ w14.1 86 = 0 := fun f => by
    have h1 : ∀ k, k ∈ [9, 10, 11, 14, 17, 20] → k ∉ PfJ := by decide
    have h2 : ∀ k, k ∈ TRW → k ∉ PfB := by decide
    exact ⟨⟨fun k hk => f.1 k (h1 k hk), fun k hk => f.2.2.1 k (h2 k hk)⟩, by rw [f.1 86 (by decide)]; exact w0 86 (by decide)⟩
  rw [read_e1 e9] at ec
  obtain ⟨m12, r12, x1, ec⟩ := bnd_sm ec
  have r0 : r12 = 0 := by
    by_cases q : r12 = 0
    · exact q
    · exfalso
      unfold rdC at ec
      rw [decide_eq_false q, br_fq] at ec
      have := (rd27_p m2 r ec).2.1
      rw [if_neg q, h10] at this
      exact absurd this (by decide)
  subst r0
  unfold rdC at ec
  rw [show decide ((0 : Int32) = 0) = true from rfl, br_tq] at ec
  obtain ⟨v, rc, xc, ec⟩ := bnd_sm ec
  obtain ⟨-, c10, -, cI, cR⟩ := rd27_p m2 r ec
  have rc0 : rc = 0 := by
    by_cases q : rc = 0
    · exact q
    · rw [if_neg q, h10] at c10
      exact absurd c10 (by decide)
  subst rc0
  rw [read_e2 e2] at ew
  obtain ⟨w14, z14, x2, ew⟩ := bnd_sm ew
  cases z14
  unfold rdE at ew
  have ew : br (decide ((upI w14 5 0).1 67 = 0)) _ _ = some (w2, s) := ew
  obtain ⟨kp, hp⟩ := pkC m12 0 x1
  have kT0 : (m9.2.2.1 6 n.i).toNatClampNeg = 0 := by
    have := (hp rfl).1
    have e6 : A m12 6 n.i = A m9 6 n.i := FRc_A (fr12 kp) (by simp)
    have this : (m9.2.2.1 6 n.i).toInt = 0 := by rw [e6] at this; exact this
    have k0 : m9.2.2.1 6 n.i = 0 := (I_of _).trans (by rw [this]; rfl)
    rw [k0]; rfl
  have hb : bad = false := by
    cases bad
    · rfl
    · rw [kT0] at kT; exact absurd kT (by decide)
  have pw := pk_ok (program_ok (N := N) (bw := bwf) (by omega) tk.1.1 (fun _ => tk) tbw aw ⟨wF 75 (by decide), wF 77 (by decide), wF 83 (by decide)⟩ (by rw [wF 71 (by decide)]; omega) k44w k49w)
  have hy := pw w14 () x2
  have pr : PRO w13 w14 := by
    rcases hy with ⟨G, hG, h, -⟩ | h
    · exact h.1
    · exact h.1
  have y86 : w14.1 86 = 0 := (k2w pr).2
  have w67 : w14.1 67 = 0 := by
    by_cases q : w14.1 67 = 0
    · exact q
    · exfalso
      rw [decide_eq_false (by rw [upI_ne (by decide)]; exact q), br_fq] at ew
      injection ew with ew
      injection ew with ew _
      rw [← ew, upI_ne (by decide), y86] at z86
      exact absurd z86 (by decide)
  rw [decide_eq_true (by rw [upI_ne (by decide)]; exact w67), br_tq] at ew
  obtain ⟨Y, zY, xY, ew⟩ := bnd_sm ew
  cases zY
  have hw : w2 = upI Y 86 1 ∨ w2 = Y := by
    revert ew
    refine (show PK (fun v (_ : Int32) => v = upI Y 86 1 ∨ v = Y) _ from ?_) w2 s
    have p162 : PK (fun v (_ : Int32) => v = upI Y 86 1 ∨ v = Y) (fb_M_read_162 N () Y) := pk_some (Or.inr rfl)
    exact pk_br (fun _ => pk_br (fun _ => pk_br (fun _ => p162) (fun _ => pk_br (fun _ => p162) (fun _ => pk_br (fun _ => pk_ltq (pk_some (Or.inl rfl))) (fun _ => p162)))) (fun _ => p162)) (fun _ => pk_ck (fun _ => pk_some (Or.inr rfl)))
  have kc12 : Kcc m12 v := yc_hm_Cm_compile Kc_rf v 0 xc
  have ki := k1 kp
  have f12 := fr12 kp
  have c12 : CST m12 := CST_fr f12 c9 (by simp) (by simp) (by simp) (by simp)
  have r12w : WRS m12 := WRS_fr f12 r9 (by simp) (by simp) (by simp) (by simp)
  have s12 : STA m12 := STA_fr s9 f12 c12 (WR0_of r12w) (fun j hj => by rw [FRc_A f12 (by simp), FRc_A f12 (by simp)]; exact s9.2.2.2.1 j hj) (by simp) (by simp)
  have tk12 : TKS m12 n.i ps := TKS_fr f12 tks (by simp) (by simp)
  have e441 : F m12 441 = 1 := by
    rw [show F m12 441 = F (wi m9 441 1) 441 from congrArg _ (kp.1 441 (by simp)), F_wi (by decide) (by decide), if_pos rfl]
  obtain ⟨A6, G0, n3, q0, hG0, pfi⟩ := hp rfl
  have cac := pk_mo (pk_ok (cmpC_ok (N := N) (by omega) s12 c12 r12w tk12 e441 pfi)) (fun v r q => CAC_of q)
  have cwr := pk_ok (cmpW_ok (N := N) (by omega) s12 c12 r12w tk12 e441 pfi)
  have jm := jm_of (by omega) cac cwr xc
  have t4 := cz.1.1.1
  have hT : n.i ≤ 1500 := by
    have a := (cac v 0 xc rfl).2.2.2.2.1
    rw [kc12.1 85 (by decide), ki.1 85 (by decide), m85] at a
    have := (I_le (x := ((n.i : Nat) : Int)) (y := (1500 : Int)) (by omega) (by omega) (by omega) (by omega)).mp a
    omega
  have km := (yk_fm_M_program (N := N) (u0 := w13) (u := w13) (fun h => h)) w14 () x2 w67
  have base := prs_pp th kT0 (w0 67 (by decide)) (w0 72 (by decide)) (w0 75 (by decide))
  obtain ⟨b1, b2, g, p, n', D, b3⟩ := (base m12 0 w14 () x1 x2).resolve_left (fun q => q.1 rfl)
  have p4 := b3.1.1.2.2.2.2.1
  have g66 : g ≤ 666 := by have := b3.1.2.1; omega
  have hh : m12.1 442 = I (g : Nat) := b3.2.1.2.1
  obtain ⟨-, pk2⟩ := (pk_ok (parse_okcK (N := N) tkk (by omega))) m12 0 x1
  obtain ⟨-, G, n4, q, hG, -, psi, f442, h6, fns⟩ := pk2 rfl
  have gG : g = G := by
    have := (I_eq (x := ((g : Nat) : Int)) (y := ((G : Nat) : Int)) (by omega) (by omega) (by omega) (by omega)).mp (hh.symm.trans (I_F' f442))
    omega
  subst gG
  have q5 : 5 * q ≤ n.i := by
    obtain ⟨pp, nn, qq, -, ⟨d1, d2, d3⟩, c1, -⟩ := FN_fn fns
    have := c1 g (Nat.le_refl _)
    rw [d1, d3] at this
    omega
  have e449 : m12.1 449 = I (q : Nat) := by
    have := psi.2.2.2.1
    rw [if_pos (by omega)] at this
    exact I_F' this
  have tn : TN = n.i := by
    have e : w13.1 9 = I (n.i : Nat) := by rw [toks.m9, hb]; exact oI
    have e3 : F w13 9 = ((n.i : Nat) : Int) := by unfold F; rw [e]; exact I_ti (by omega) (by omega)
    omega
  have cz12 : CTZ m12 w13 (fun p => (m9.2.2.1 6 p).toNatClampNeg) n.i (nmQ n.q) (fun p => (w13.2.2.1 7 p).toNatClampNeg) := ⟨⟨cz.1.1, fun p hp => by rw [ki.2.1 6 (by omega)]; exact cz.1.2 p hp⟩, cz.2.1, cz.2.2.1, fun j hj k3 => by rw [ki.2.1 7 (by omega)]; exact cz.2.2.2 j hj k3⟩
  have cv12 : CTV m12 w13 (fun p => (m9.2.2.1 6 p).toNatClampNeg) n.i := tk_cv R9.1 toks (hfs hb) stw (fun p hp a => (tk.2.1 p (by omega)).2.2.2.2.2 a) ca (fun _ _ => rfl) hln ⟨ki.2.1 7 (by omega), ki.2.1 8 (by omega), ki.2.1 5 (by omega)⟩ (ki.1 81 (by decide))
  have c36' : CW36 m12 := CW36_k c36 (ki.2.2 722 (by decide) (by decide)) (ki.2.1 37 (by omega)) (ki.2.1 38 (by omega))
  have at12 : ATf m12 w13 n.fa n.na := ATf_k at9 (ki.1 22 (by decide)) (ki.2.1 2 (by omega)) (ki.2.1 3 (by omega)) rfl rfl rfl
  have cx := CVX_mk (N := N) (w0 := w13) (K := fun p => (m9.2.2.1 6 p).toNatClampNeg) (T := n.i) hh g66 c36' at12
  have pz := cmp_prg (N := N) cz12 cv12 cx hT kT0 hh ⟨hG, g66⟩ (by rw [I_F' e441]; rfl) fns (w0 67 (by decide)) ⟨w0 75 (by decide), w0 77 (by decide), w0 83 (by decide)⟩ v 0 w14 () jm km.2
  obtain ⟨a5, Q5, fr5, -, -, -, ⟨hR5, -⟩, h52, -⟩ := id pz
  have kt : Ktc w13 w14 := hR5.1
  obtain ⟨h32, q24⟩ := hR5.2.2.2.2 32 (by decide)
  have f32 : F w14 32 = ((Q5 32 : Nat) : Int) := by
    unfold F
    rw [h32]
    exact I_ti (by omega) (by omega)
  have cl := calls_x (N := N) (w := upI w14 5 0) (m := m12) (g := g) (n := Q5 32) (fa := n.fa) (na := n.na) (by rw [upI_ne (by decide)]; exact h52) g66 (by rw [upI_ne (by decide)]; exact h32) (by omega) (by
    show w14.2.2.1 2 = _
    rw [kt.2 2 (by decide)]
    exact toks.co.2.2.2.2.2.2.2) (ATf_k at12 rfl rfl rfl (by rw [upI_ne (by decide)]; exact kt.1 14 (by decide)) (kt.2 12 (by decide)) (kt.2 13 (by decide))) (fun i hi h12 => by
    have h12 : A w14 23 i = 12 := by
      show (w14.2.2.1 23 i).toInt = 12
      rw [show w14.2.2.1 23 i = 12 from h12]; rfl
    rcases hy with ⟨G2, hG2, h, -⟩ | h
    · obtain ⟨g1, g2, ⟨p', n'', q', c', f', h', g3, g4, g5⟩, g6, g7⟩ := h
      have ngd := (g3.2.2.2.1 i (by omega)).2.2 h12
      rw [show F w14 14 = F w13 14 from pr.F (by decide), F14] at ngd
      exact ngd
    · exact absurd (show F w14 67 = 0 by unfold F; rw [w67]; rfl) h.2.1) (fun f hf => ⟨(PGI_t ca b3 f hf).1, (PGI_t ca b3 f hf).2.1⟩) Y () xY
  have y86' : Y.1 86 = 0 := (cl.1.1 86 (by decide) (by decide)).trans ((upI_ne (by decide)).trans y86)
  have hw2 : w2 = upI Y 86 1 := by
    rcases hw with e | e
    · exact e
    · exfalso
      rw [e, y86'] at z86
      exact absurd z86 (by decide)
  subst hw2
  have tab := tabs_x pz (CLRz_of cl rfl (upI_ne (by decide))) h32 (by omega) (fun x y => by have := (cvX_r (m := m12) (fa := n.fa) (na := n.na) (g := g) (x := x) (y := y) g66).1; omega) (fun x y => by have := (cvX_r (m := m12) (fa := n.fa) (na := n.na) (g := g) (x := x) (y := y) g66).2; omega) hh g66 e449 (by omega)
  have y14 : F (upI Y 86 1) 14 = F w13 14 := by
    unfold F
    rw [upI_ne (by decide), cl.1.1 14 (by decide) (by decide), upI_ne (by decide), kt.1 14 (by decide)]
  have y13 : ∀ j, A (upI Y 86 1) 13 j = A w13 13 j := fun j => by
    show (Y.2.2.1 13 j).toInt = _
    rw [cl.1.2.1 13 (by decide)]
    show (w14.2.2.1 13 j).toInt = _
    rw [kt.2 13 (by decide)]
    rfl
  refine ⟨TB_tab tab.1 ⟨cI 442 (by decide) (by decide) (by decide), cI 449 (by decide) (by decide) (by decide)⟩ (fun K hK => cR K (by omega)) (fun K _ => rfl) rfl, ?_, ⟨?_, ?_, fun j hj => ?_⟩, ?_⟩
  · have e1 : F m2 442 = F v 442 := congrArg Int32.toInt (cI 442 (by decide) (by decide) (by decide))
    have e2 : F (upI Y 86 1) 52 = F Y 52 := congrArg Int32.toInt (upI_ne (by decide))
    rw [e1, e2]
    exact tab.2
  · unfold ATM at aw ⊢
    rw [y14]
    exact ⟨aw.1, aw.2.1, fun k hk => by rw [y13, y13]; exact aw.2.2 k hk⟩
  · rw [y14]; exact w22
  · have h22 := toks.a22
    have f4 : ∀ j, j ≤ 22 → fa0 j ≤ 200 := by decide
    rw [y13]
    show (w13.2.2.1 13 j).toInt = _
    rw [at9.2.1.2 j (by omega), toks.f22 j hj]
    exact I_ti (by have := f4 j hj; omega) (by have := f4 j hj; omega)
  · have e1 : m2.1 85 = m12.1 85 := (cI 85 (by decide) (by decide) (by decide)).trans (kc12.1 85 (by decide))
    have e2 : (upI Y 86 1).1 9 = w13.1 9 := by
      rw [upI_ne (by decide), cl.1.1 9 (by decide) (by decide), upI_ne (by decide), kt.1 9 (by decide)]
    rw [e1, ki.1 85 (by decide), m85, e2, toks.m9, hb]
    exact oI.symm
end
end
section
set_option maxRecDepth 100000
def Kr1c (u w : MS) : Prop := w = u
def Kr1E {α : Type} (u : MS) (o : Option (MS × α)) : Prop := ∀ w r, o = some (w, r) → Kr1c u w
section
variable {α β : Type} {u0 u w : MS} {k : Nat}
theorem Kr1_none : Kr1E u0 (none : Option (MS × α)) := fun _ _ e => by cases e
theorem Kr1_some {r : α} (h : Kr1c u0 w) : Kr1E u0 (some (w, r)) := fun _ _ e => by injection e with e; injection e with e1 _; exact e1 ▸ h
theorem Kr1_br {b : Bool} {p q : Option (MS × α)} (h1 : Kr1E u0 p) (h2 : Kr1E u0 q) : Kr1E u0 (br b p q) := by cases b <;> assumption
theorem Kr1_ck {b : Bool} {p : Option (MS × α)} (h1 : Kr1E u0 p) : Kr1E u0 (ck b p) := by
  cases b
  · exact Kr1_none
  · exact h1
theorem Kr1_bo {o : Option β} {f : β → Option (MS × α)} (h : ∀ j, Kr1E u0 (f j)) : Kr1E u0 (bo o f) := by
  cases o with
  | none => exact Kr1_none
  | some j => exact h j
theorem Kr1_bnd {o : Option (MS × β)} {f : MS → β → Option (MS × α)} (h1 : Kr1E u0 o) (h2 : ∀ w r, Kr1c u0 w → Kr1E u0 (f w r)) : Kr1E u0 (bnd o f) := by
  cases o with
  | none => exact Kr1_none
  | some x => exact h2 x.1 x.2 (h1 x.1 x.2 rfl)
theorem Kr1_T {o : Option (MS × (β ⊕ Nat))} {f : MS → β → Option (MS × (α ⊕ Nat))} (h1 : Kr1E u0 o) (h2 : ∀ w r, Kr1c u0 w → Kr1E u0 (f w r)) : Kr1E u0 (bTm o f) := by
  cases o with
  | none => exact Kr1_none
  | some x =>
    obtain ⟨x, z⟩ := x
    cases z with
    | inl v => exact h2 x v (h1 x _ rfl)
    | inr k => exact Kr1_some (h1 x _ rfl)
theorem Kr1_H {o : Option (MS × (β ⊕ Nat))} {f : MS → β → Option (MS × α)} {g : MS → Option (MS × α)} (h1 : Kr1E u0 o) (h2 : ∀ w r, Kr1c u0 w → Kr1E u0 (f w r)) (h3 : ∀ w, Kr1c u0 w → Kr1E u0 (g w)) : Kr1E u0 (bHm o f g) := by
  cases o with
  | none => exact Kr1_none
  | some x =>
    obtain ⟨x, z⟩ := x
    cases z with
    | inl v => exact h2 x v (h1 x _ rfl)
    | inr k =>
      show Kr1E u0 (if k = 3 then g x else none)
      split
      · exact h3 x (h1 x _ rfl)
      · exact Kr1_none
theorem Kr1_ltm {x : MS} {f : MS → Option (MS × α)} (h1 : Kr1c u0 x) (h2 : ∀ w, Kr1c u0 w → Kr1E u0 (f w)) : Kr1E u0 (lt x f) := h2 x h1
theorem Kr1_ltv {x : β} {f : β → Option (MS × α)} (h2 : ∀ y, Kr1E u0 (f y)) : Kr1E u0 (lt x f) := h2 x
theorem Kr1_I {v : Int32} (h : Kr1c u0 u) (hk : False) : Kr1c u0 (upI u k v) := hk.elim
theorem Kr1_L {v : Int64} (h : False) : Kr1c u0 (upL u k v) := h.elim
theorem Kr1_J {v : Nat → Int64} (h : False) : Kr1c u0 (upJ u k v) := h.elim
theorem Kr1_A {v : Nat → Int32} (h : Kr1c u0 u) (hk : False) : Kr1c u0 (upA u k v) := hk.elim
theorem Kr1_rf : Kr1c u u := rfl
end
section
variable {u0 u : MS} {N : Nat}
theorem yr1_hb_H_count_108 {G : Unit} {t0 : Int32} (h : Kr1c u0 u)  : Kr1E u0 (hb_H_count_108 N G u t0) := by
  unfold hb_H_count_108
  repeat' (first | with_reducible assumption | with_reducible refine Kr1_br ?_ ?_ | with_reducible refine Kr1_bnd ?_ (fun _ _ _ => ?_) | with_reducible refine Kr1_ck ?_ | with_reducible refine Kr1_ltm ?_ (fun _ _ => ?_) | with_reducible refine Kr1_some ?_ | with_reducible refine Kr1_bo (fun _ => ?_) | with_reducible refine Kr1_T ?_ (fun _ _ _ => ?_) | with_reducible refine Kr1_H ?_ (fun _ _ _ => ?_) (fun _ _ => ?_) | with_reducible refine Kr1_ltv (fun _ => ?_) | with_reducible refine Kr1_I ?_ (by decide) | with_reducible refine Kr1_A ?_ (by decide) | with_reducible refine Kr1_J ?_ | with_reducible refine Kr1_L ?_)
theorem yr1_hb_H_count_89 {G : Unit} {t0 : Int32} (h : Kr1c u0 u)  : Kr1E u0 (hb_H_count_89 N G u t0) := by
  unfold hb_H_count_89
  repeat' (first | with_reducible assumption | with_reducible refine Kr1_br ?_ ?_ | with_reducible refine Kr1_bnd ?_ (fun _ _ _ => ?_) | with_reducible refine Kr1_ck ?_ | with_reducible refine Kr1_ltm ?_ (fun _ _ => ?_) | with_reducible refine Kr1_some ?_ | with_reducible refine Kr1_bo (fun _ => ?_) | with_reducible refine Kr1_T ?_ (fun _ _ _ => ?_) | with_reducible refine Kr1_H ?_ (fun _ _ _ => ?_) (fun _ _ => ?_) | with_reducible refine Kr1_ltv (fun _ => ?_) | with_reducible refine Kr1_I ?_ (by decide) | with_reducible refine Kr1_A ?_ (by decide) | with_reducible refine Kr1_J ?_ | with_reducible refine Kr1_L ?_)
theorem yr1_hb_H_count_70 {G : Unit} {t0 : Int32} (h : Kr1c u0 u)  : Kr1E u0 (hb_H_count_70 N G u t0) := by
  unfold hb_H_count_70
  repeat' (first | with_reducible assumption | with_reducible refine Kr1_br ?_ ?_ | with_reducible refine Kr1_bnd ?_ (fun _ _ _ => ?_) | with_reducible refine Kr1_ck ?_ | with_reducible refine Kr1_ltm ?_ (fun _ _ => ?_) | with_reducible refine Kr1_some ?_ | with_reducible refine Kr1_bo (fun _ => ?_) | with_reducible refine Kr1_T ?_ (fun _ _ _ => ?_) | with_reducible refine Kr1_H ?_ (fun _ _ _ => ?_) (fun _ _ => ?_) | with_reducible refine Kr1_ltv (fun _ => ?_) | with_reducible refine Kr1_I ?_ (by decide) | with_reducible refine Kr1_A ?_ (by decide) | with_reducible refine Kr1_J ?_ | with_reducible refine Kr1_L ?_)
theorem yr1_hb_H_count_0 {G : Unit} {v1 : Int32} (h : Kr1c u0 u)  : Kr1E u0 (hb_H_count_0 N G u v1) := by
  unfold hb_H_count_0
  repeat' (first | with_reducible assumption | with_reducible refine Kr1_br ?_ ?_ | with_reducible refine Kr1_bnd ?_ (fun _ _ _ => ?_) | with_reducible refine Kr1_ck ?_ | with_reducible refine Kr1_ltm ?_ (fun _ _ => ?_) | with_reducible refine Kr1_some ?_ | with_reducible refine Kr1_bo (fun _ => ?_) | with_reducible refine Kr1_T ?_ (fun _ _ _ => ?_) | with_reducible refine Kr1_H ?_ (fun _ _ _ => ?_) (fun _ _ => ?_) | with_reducible exact yr1_hb_H_count_108 (by assumption) | with_reducible exact yr1_hb_H_count_70 (by assumption) | with_reducible exact yr1_hb_H_count_89 (by assumption) | with_reducible refine Kr1_ltv (fun _ => ?_) | with_reducible refine Kr1_I ?_ (by decide) | with_reducible refine Kr1_A ?_ (by decide) | with_reducible refine Kr1_J ?_ | with_reducible refine Kr1_L ?_)
theorem yr1_hm_H_count {v1 : Int32} (h : Kr1c u0 u)  : Kr1E u0 (hm_H_count N u v1) := by
  unfold hm_H_count
  exact yr1_hb_H_count_0 h
theorem yr1_hb_H_isFunction_27 {G : Unit} {t0 : Int32} (h : Kr1c u0 u)  : Kr1E u0 (hb_H_isFunction_27 N G u t0) := by
  unfold hb_H_isFunction_27
  repeat' (first | with_reducible assumption | with_reducible refine Kr1_br ?_ ?_ | with_reducible refine Kr1_bnd ?_ (fun _ _ _ => ?_) | with_reducible refine Kr1_ck ?_ | with_reducible refine Kr1_ltm ?_ (fun _ _ => ?_) | with_reducible refine Kr1_some ?_ | with_reducible refine Kr1_bo (fun _ => ?_) | with_reducible refine Kr1_T ?_ (fun _ _ _ => ?_) | with_reducible refine Kr1_H ?_ (fun _ _ _ => ?_) (fun _ _ => ?_) | with_reducible refine Kr1_ltv (fun _ => ?_) | with_reducible refine Kr1_I ?_ (by decide) | with_reducible refine Kr1_A ?_ (by decide) | with_reducible refine Kr1_J ?_ | with_reducible refine Kr1_L ?_)
theorem yr1_hb_H_isFunction_26 {G : Unit} (h : Kr1c u0 u)  : Kr1E u0 (hb_H_isFunction_26 N G u) := by
  unfold hb_H_isFunction_26
  repeat' (first | with_reducible assumption | with_reducible refine Kr1_br ?_ ?_ | with_reducible refine Kr1_bnd ?_ (fun _ _ _ => ?_) | with_reducible refine Kr1_ck ?_ | with_reducible refine Kr1_ltm ?_ (fun _ _ => ?_) | with_reducible refine Kr1_some ?_ | with_reducible refine Kr1_bo (fun _ => ?_) | with_reducible refine Kr1_T ?_ (fun _ _ _ => ?_) | with_reducible refine Kr1_H ?_ (fun _ _ _ => ?_) (fun _ _ => ?_) | with_reducible exact yr1_hb_H_isFunction_27 (by assumption) | with_reducible refine Kr1_ltv (fun _ => ?_) | with_reducible refine Kr1_I ?_ (by decide) | with_reducible refine Kr1_A ?_ (by decide) | with_reducible refine Kr1_J ?_ | with_reducible refine Kr1_L ?_)
theorem yr1_hb_H_isFunction_0 {G : Unit} {v1 : Int32} (h : Kr1c u0 u)  : Kr1E u0 (hb_H_isFunction_0 N G u v1) := by
  unfold hb_H_isFunction_0
  repeat' (first | with_reducible assumption | with_reducible refine Kr1_br ?_ ?_ | with_reducible refine Kr1_bnd ?_ (fun _ _ _ => ?_) | with_reducible refine Kr1_ck ?_ | with_reducible refine Kr1_ltm ?_ (fun _ _ => ?_) | with_reducible refine Kr1_some ?_ | with_reducible refine Kr1_bo (fun _ => ?_) | with_reducible refine Kr1_T ?_ (fun _ _ _ => ?_) | with_reducible refine Kr1_H ?_ (fun _ _ _ => ?_) (fun _ _ => ?_) | with_reducible exact yr1_hb_H_isFunction_26 (by assumption) | with_reducible exact yr1_hb_H_isFunction_27 (by assumption) | with_reducible refine Kr1_ltv (fun _ => ?_) | with_reducible refine Kr1_I ?_ (by decide) | with_reducible refine Kr1_A ?_ (by decide) | with_reducible refine Kr1_J ?_ | with_reducible refine Kr1_L ?_)
theorem yr1_hm_H_isFunction {v1 : Int32} (h : Kr1c u0 u)  : Kr1E u0 (hm_H_isFunction N u v1) := by
  unfold hm_H_isFunction
  exact yr1_hb_H_isFunction_0 h
theorem yr1_hb_H_function_0 {G : Unit} {v1 : Int32} {v2 : Int32} (h : Kr1c u0 u)  : Kr1E u0 (hb_H_function_0 N G u v1 v2) := by
  unfold hb_H_function_0
  repeat' (first | with_reducible assumption | with_reducible refine Kr1_br ?_ ?_ | with_reducible refine Kr1_bnd ?_ (fun _ _ _ => ?_) | with_reducible refine Kr1_ck ?_ | with_reducible refine Kr1_ltm ?_ (fun _ _ => ?_) | with_reducible refine Kr1_some ?_ | with_reducible refine Kr1_bo (fun _ => ?_) | with_reducible refine Kr1_T ?_ (fun _ _ _ => ?_) | with_reducible refine Kr1_H ?_ (fun _ _ _ => ?_) (fun _ _ => ?_) | with_reducible exact yr1_hm_H_isFunction (by assumption) | with_reducible refine Kr1_ltv (fun _ => ?_) | with_reducible refine Kr1_I ?_ (by decide) | with_reducible refine Kr1_A ?_ (by decide) | with_reducible refine Kr1_J ?_ | with_reducible refine Kr1_L ?_)
theorem yr1_hm_H_function {v1 : Int32} {v2 : Int32} (h : Kr1c u0 u)  : Kr1E u0 (hm_H_function N u v1 v2) := by
  unfold hm_H_function
  exact yr1_hb_H_function_0 h
theorem yr1_hb_Wo_sign_35 {G : Unit} (h : Kr1c u0 u)  : Kr1E u0 (hb_Wo_sign_35 N G u) := by
  unfold hb_Wo_sign_35
  repeat' (first | with_reducible assumption | with_reducible refine Kr1_br ?_ ?_ | with_reducible refine Kr1_bnd ?_ (fun _ _ _ => ?_) | with_reducible refine Kr1_ck ?_ | with_reducible refine Kr1_ltm ?_ (fun _ _ => ?_) | with_reducible refine Kr1_some ?_ | with_reducible refine Kr1_bo (fun _ => ?_) | with_reducible refine Kr1_T ?_ (fun _ _ _ => ?_) | with_reducible refine Kr1_H ?_ (fun _ _ _ => ?_) (fun _ _ => ?_) | with_reducible refine Kr1_ltv (fun _ => ?_) | with_reducible refine Kr1_I ?_ (by decide) | with_reducible refine Kr1_A ?_ (by decide) | with_reducible refine Kr1_J ?_ | with_reducible refine Kr1_L ?_)
theorem yr1_hb_Wo_sign_0 {G : Unit} {v0 : Nat} {v1 : Int32} {v2 : Int32} (h : Kr1c u0 u)  : Kr1E u0 (hb_Wo_sign_0 N G u v0 v1 v2) := by
  unfold hb_Wo_sign_0
  repeat' (first | with_reducible assumption | with_reducible refine Kr1_br ?_ ?_ | with_reducible refine Kr1_bnd ?_ (fun _ _ _ => ?_) | with_reducible refine Kr1_ck ?_ | with_reducible refine Kr1_ltm ?_ (fun _ _ => ?_) | with_reducible refine Kr1_some ?_ | with_reducible refine Kr1_bo (fun _ => ?_) | with_reducible refine Kr1_T ?_ (fun _ _ _ => ?_) | with_reducible refine Kr1_H ?_ (fun _ _ _ => ?_) (fun _ _ => ?_) | with_reducible exact yr1_hb_Wo_sign_35 (by assumption) | with_reducible refine Kr1_ltv (fun _ => ?_) | with_reducible refine Kr1_I ?_ (by decide) | with_reducible refine Kr1_A ?_ (by decide) | with_reducible refine Kr1_J ?_ | with_reducible refine Kr1_L ?_)
theorem yr1_hm_Wo_sign {v0 : Nat} {v1 : Int32} {v2 : Int32} (h : Kr1c u0 u)  : Kr1E u0 (hm_Wo_sign N u v0 v1 v2) := by
  unfold hm_Wo_sign
  exact yr1_hb_Wo_sign_0 h
theorem yr1_hb_H_letter_0 {G : Unit} {v1 : Int32} {v2 : Int32} (h : Kr1c u0 u)  : Kr1E u0 (hb_H_letter_0 N G u v1 v2) := by
  unfold hb_H_letter_0
  repeat' (first | with_reducible assumption | with_reducible refine Kr1_br ?_ ?_ | with_reducible refine Kr1_bnd ?_ (fun _ _ _ => ?_) | with_reducible refine Kr1_ck ?_ | with_reducible refine Kr1_ltm ?_ (fun _ _ => ?_) | with_reducible refine Kr1_some ?_ | with_reducible refine Kr1_bo (fun _ => ?_) | with_reducible refine Kr1_T ?_ (fun _ _ _ => ?_) | with_reducible refine Kr1_H ?_ (fun _ _ _ => ?_) (fun _ _ => ?_) | with_reducible exact yr1_hm_Wo_sign (by assumption) | with_reducible refine Kr1_ltv (fun _ => ?_) | with_reducible refine Kr1_I ?_ (by decide) | with_reducible refine Kr1_A ?_ (by decide) | with_reducible refine Kr1_J ?_ | with_reducible refine Kr1_L ?_)
theorem yr1_hm_H_letter {v1 : Int32} {v2 : Int32} (h : Kr1c u0 u)  : Kr1E u0 (hm_H_letter N u v1 v2) := by
  unfold hm_H_letter
  exact yr1_hb_H_letter_0 h
theorem yr1_hb_Wl_isReady_40 {G : Unit} {t0 : Int32} (h : Kr1c u0 u)  : Kr1E u0 (hb_Wl_isReady_40 N G u t0) := by
  unfold hb_Wl_isReady_40
  repeat' (first | with_reducible assumption | with_reducible refine Kr1_br ?_ ?_ | with_reducible refine Kr1_bnd ?_ (fun _ _ _ => ?_) | with_reducible refine Kr1_ck ?_ | with_reducible refine Kr1_ltm ?_ (fun _ _ => ?_) | with_reducible refine Kr1_some ?_ | with_reducible refine Kr1_bo (fun _ => ?_) | with_reducible refine Kr1_T ?_ (fun _ _ _ => ?_) | with_reducible refine Kr1_H ?_ (fun _ _ _ => ?_) (fun _ _ => ?_) | with_reducible refine Kr1_ltv (fun _ => ?_) | with_reducible refine Kr1_I ?_ (by decide) | with_reducible refine Kr1_A ?_ (by decide) | with_reducible refine Kr1_J ?_ | with_reducible refine Kr1_L ?_)
theorem yr1_hb_Wl_isReady_39 {G : Unit} (h : Kr1c u0 u)  : Kr1E u0 (hb_Wl_isReady_39 N G u) := by
  unfold hb_Wl_isReady_39
  repeat' (first | with_reducible assumption | with_reducible refine Kr1_br ?_ ?_ | with_reducible refine Kr1_bnd ?_ (fun _ _ _ => ?_) | with_reducible refine Kr1_ck ?_ | with_reducible refine Kr1_ltm ?_ (fun _ _ => ?_) | with_reducible refine Kr1_some ?_ | with_reducible refine Kr1_bo (fun _ => ?_) | with_reducible refine Kr1_T ?_ (fun _ _ _ => ?_) | with_reducible refine Kr1_H ?_ (fun _ _ _ => ?_) (fun _ _ => ?_) | with_reducible exact yr1_hb_Wl_isReady_40 (by assumption) | with_reducible refine Kr1_ltv (fun _ => ?_) | with_reducible refine Kr1_I ?_ (by decide) | with_reducible refine Kr1_A ?_ (by decide) | with_reducible refine Kr1_J ?_ | with_reducible refine Kr1_L ?_)
theorem yr1_hb_Wl_isReady_35 {G : Unit} (h : Kr1c u0 u)  : Kr1E u0 (hb_Wl_isReady_35 N G u) := by
  unfold hb_Wl_isReady_35
  repeat' (first | with_reducible assumption | with_reducible refine Kr1_br ?_ ?_ | with_reducible refine Kr1_bnd ?_ (fun _ _ _ => ?_) | with_reducible refine Kr1_ck ?_ | with_reducible refine Kr1_ltm ?_ (fun _ _ => ?_) | with_reducible refine Kr1_some ?_ | with_reducible refine Kr1_bo (fun _ => ?_) | with_reducible refine Kr1_T ?_ (fun _ _ _ => ?_) | with_reducible refine Kr1_H ?_ (fun _ _ _ => ?_) (fun _ _ => ?_) | with_reducible exact yr1_hb_Wl_isReady_40 (by assumption) | with_reducible refine Kr1_ltv (fun _ => ?_) | with_reducible refine Kr1_I ?_ (by decide) | with_reducible refine Kr1_A ?_ (by decide) | with_reducible refine Kr1_J ?_ | with_reducible refine Kr1_L ?_)
theorem yr1_hb_Wl_isReady_0 {G : Unit} {v1 : Nat} (h : Kr1c u0 u)  : Kr1E u0 (hb_Wl_isReady_0 N G u v1) := by
  unfold hb_Wl_isReady_0
  repeat' (first | with_reducible assumption | with_reducible refine Kr1_br ?_ ?_ | with_reducible refine Kr1_bnd ?_ (fun _ _ _ => ?_) | with_reducible refine Kr1_ck ?_ | with_reducible refine Kr1_ltm ?_ (fun _ _ => ?_) | with_reducible refine Kr1_some ?_ | with_reducible refine Kr1_bo (fun _ => ?_) | with_reducible refine Kr1_T ?_ (fun _ _ _ => ?_) | with_reducible refine Kr1_H ?_ (fun _ _ _ => ?_) (fun _ _ => ?_) | with_reducible exact yr1_hb_Wl_isReady_35 (by assumption) | with_reducible exact yr1_hb_Wl_isReady_39 (by assumption) | with_reducible refine Kr1_ltv (fun _ => ?_) | with_reducible refine Kr1_I ?_ (by decide) | with_reducible refine Kr1_A ?_ (by decide) | with_reducible refine Kr1_J ?_ | with_reducible refine Kr1_L ?_)
theorem yr1_hm_Wl_isReady {v1 : Nat} (h : Kr1c u0 u)  : Kr1E u0 (hm_Wl_isReady N u v1) := by
  unfold hm_Wl_isReady
  exact yr1_hb_Wl_isReady_0 h
theorem yr1_hb_Fr_of_26 {G : Unit} {t0 : Int32} (h : Kr1c u0 u)  : Kr1E u0 (hb_Fr_of_26 N G u t0) := by
  unfold hb_Fr_of_26
  repeat' (first | with_reducible assumption | with_reducible refine Kr1_br ?_ ?_ | with_reducible refine Kr1_bnd ?_ (fun _ _ _ => ?_) | with_reducible refine Kr1_ck ?_ | with_reducible refine Kr1_ltm ?_ (fun _ _ => ?_) | with_reducible refine Kr1_some ?_ | with_reducible refine Kr1_bo (fun _ => ?_) | with_reducible refine Kr1_T ?_ (fun _ _ _ => ?_) | with_reducible refine Kr1_H ?_ (fun _ _ _ => ?_) (fun _ _ => ?_) | with_reducible refine Kr1_ltv (fun _ => ?_) | with_reducible refine Kr1_I ?_ (by decide) | with_reducible refine Kr1_A ?_ (by decide) | with_reducible refine Kr1_J ?_ | with_reducible refine Kr1_L ?_)
theorem yr1_hb_Fr_of_12 {G : Unit} (h : Kr1c u0 u)  : Kr1E u0 (hb_Fr_of_12 N G u) := by
  unfold hb_Fr_of_12
  repeat' (first | with_reducible assumption | with_reducible refine Kr1_br ?_ ?_ | with_reducible refine Kr1_bnd ?_ (fun _ _ _ => ?_) | with_reducible refine Kr1_ck ?_ | with_reducible refine Kr1_ltm ?_ (fun _ _ => ?_) | with_reducible refine Kr1_some ?_ | with_reducible refine Kr1_bo (fun _ => ?_) | with_reducible refine Kr1_T ?_ (fun _ _ _ => ?_) | with_reducible refine Kr1_H ?_ (fun _ _ _ => ?_) (fun _ _ => ?_) | with_reducible exact yr1_hb_Fr_of_26 (by assumption) | with_reducible refine Kr1_ltv (fun _ => ?_) | with_reducible refine Kr1_I ?_ (by decide) | with_reducible refine Kr1_A ?_ (by decide) | with_reducible refine Kr1_J ?_ | with_reducible refine Kr1_L ?_)
theorem yr1_hb_Fr_of_0 {G : Unit} {v0 : Nat} {v1 : Int32} {v2 : Int32} (h : Kr1c u0 u)  : Kr1E u0 (hb_Fr_of_0 N G u v0 v1 v2) := by
  unfold hb_Fr_of_0
  repeat' (first | with_reducible assumption | with_reducible refine Kr1_br ?_ ?_ | with_reducible refine Kr1_bnd ?_ (fun _ _ _ => ?_) | with_reducible refine Kr1_ck ?_ | with_reducible refine Kr1_ltm ?_ (fun _ _ => ?_) | with_reducible refine Kr1_some ?_ | with_reducible refine Kr1_bo (fun _ => ?_) | with_reducible refine Kr1_T ?_ (fun _ _ _ => ?_) | with_reducible refine Kr1_H ?_ (fun _ _ _ => ?_) (fun _ _ => ?_) | with_reducible exact yr1_hb_Fr_of_12 (by assumption) | with_reducible exact yr1_hb_Fr_of_26 (by assumption) | with_reducible refine Kr1_ltv (fun _ => ?_) | with_reducible refine Kr1_I ?_ (by decide) | with_reducible refine Kr1_A ?_ (by decide) | with_reducible refine Kr1_J ?_ | with_reducible refine Kr1_L ?_)
theorem yr1_hm_Fr_of {v0 : Nat} {v1 : Int32} {v2 : Int32} (h : Kr1c u0 u)  : Kr1E u0 (hm_Fr_of N u v0 v1 v2) := by
  unfold hm_Fr_of
  exact yr1_hb_Fr_of_0 h
theorem yr1_hb_Wl_watchesOf_28 {G : (MS → Int32 → Int32 → Int32 → Option (MS × Int32))} {v1 : Int32} {v3 : Int32} {t0 : Int32} {t1 : Int32} (h : Kr1c u0 u) (hG0 : ∀ (u : MS) a0 a1 a2, Kr1c u0 u → Kr1E u0 (G u a0 a1 a2)) : Kr1E u0 (hb_Wl_watchesOf_28 N G u v1 v3 t0 t1) := by
  unfold hb_Wl_watchesOf_28
  repeat' (first | with_reducible assumption | with_reducible refine Kr1_br ?_ ?_ | with_reducible refine Kr1_bnd ?_ (fun _ _ _ => ?_) | with_reducible refine Kr1_ck ?_ | with_reducible refine Kr1_ltm ?_ (fun _ _ => ?_) | with_reducible refine Kr1_some ?_ | with_reducible refine Kr1_bo (fun _ => ?_) | with_reducible refine Kr1_T ?_ (fun _ _ _ => ?_) | with_reducible refine Kr1_H ?_ (fun _ _ _ => ?_) (fun _ _ => ?_) | with_reducible exact hG0 _ _ _ _ (by assumption) | with_reducible refine Kr1_ltv (fun _ => ?_) | with_reducible refine Kr1_I ?_ (by decide) | with_reducible refine Kr1_A ?_ (by decide) | with_reducible refine Kr1_J ?_ | with_reducible refine Kr1_L ?_)
theorem yr1_hb_Wl_watchesOf_4 {G : (MS → Int32 → Int32 → Int32 → Option (MS × Int32))} {v1 : Int32} {v2 : Int32} {v3 : Int32} (h : Kr1c u0 u) (hG0 : ∀ (u : MS) a0 a1 a2, Kr1c u0 u → Kr1E u0 (G u a0 a1 a2)) : Kr1E u0 (hb_Wl_watchesOf_4 N G u v1 v2 v3) := by
  unfold hb_Wl_watchesOf_4
  repeat' (first | with_reducible assumption | with_reducible refine Kr1_br ?_ ?_ | with_reducible refine Kr1_bnd ?_ (fun _ _ _ => ?_) | with_reducible refine Kr1_ck ?_ | with_reducible refine Kr1_ltm ?_ (fun _ _ => ?_) | with_reducible refine Kr1_some ?_ | with_reducible refine Kr1_bo (fun _ => ?_) | with_reducible refine Kr1_T ?_ (fun _ _ _ => ?_) | with_reducible refine Kr1_H ?_ (fun _ _ _ => ?_) (fun _ _ => ?_) | with_reducible exact yr1_hb_Wl_watchesOf_28 (by assumption) hG0 | with_reducible exact hG0 _ _ _ _ (by assumption) | with_reducible refine Kr1_ltv (fun _ => ?_) | with_reducible refine Kr1_I ?_ (by decide) | with_reducible refine Kr1_A ?_ (by decide) | with_reducible refine Kr1_J ?_ | with_reducible refine Kr1_L ?_)
theorem yr1_hb_Wl_watchesOf_0 {G : (MS → Int32 → Int32 → Int32 → Option (MS × Int32))} {v1 : Int32} (h : Kr1c u0 u) (hG0 : ∀ (u : MS) a0 a1 a2, Kr1c u0 u → Kr1E u0 (G u a0 a1 a2)) : Kr1E u0 (hb_Wl_watchesOf_0 N G u v1) := by
  unfold hb_Wl_watchesOf_0
  repeat' (first | with_reducible assumption | with_reducible refine Kr1_br ?_ ?_ | with_reducible refine Kr1_bnd ?_ (fun _ _ _ => ?_) | with_reducible refine Kr1_ck ?_ | with_reducible refine Kr1_ltm ?_ (fun _ _ => ?_) | with_reducible refine Kr1_some ?_ | with_reducible refine Kr1_bo (fun _ => ?_) | with_reducible refine Kr1_T ?_ (fun _ _ _ => ?_) | with_reducible refine Kr1_H ?_ (fun _ _ _ => ?_) (fun _ _ => ?_) | with_reducible exact hG0 _ _ _ _ (by assumption) | with_reducible refine Kr1_ltv (fun _ => ?_) | with_reducible refine Kr1_I ?_ (by decide) | with_reducible refine Kr1_A ?_ (by decide) | with_reducible refine Kr1_J ?_ | with_reducible refine Kr1_L ?_)
theorem yr1_hg_Wl_watchesOf  (n : Nat) : (∀ (u : MS) a0 a1 a2, Kr1c u0 u → Kr1E u0 ((hg_Wl_watchesOf N n) u a0 a1 a2)) := by
  induction n with
  | zero => exact fun _ _ _ _ _ => Kr1_none
  | succ n ih => exact fun _ _ _ _ h => yr1_hb_Wl_watchesOf_4 (N := N) h ih
theorem yr1_hm_Wl_watchesOf {v1 : Int32} (h : Kr1c u0 u)  : Kr1E u0 (hm_Wl_watchesOf N u v1) := by
  unfold hm_Wl_watchesOf
  exact yr1_hb_Wl_watchesOf_0 h ((yr1_hg_Wl_watchesOf N))
theorem yr1_hb_Fr_namesIn_25 {G : Unit} {v0 : Nat} {v1 : Int32} {t0 : Int32} (h : Kr1c u0 u)  : Kr1E u0 (hb_Fr_namesIn_25 N G u v0 v1 t0) := by
  unfold hb_Fr_namesIn_25
  repeat' (first | with_reducible assumption | with_reducible refine Kr1_br ?_ ?_ | with_reducible refine Kr1_bnd ?_ (fun _ _ _ => ?_) | with_reducible refine Kr1_ck ?_ | with_reducible refine Kr1_ltm ?_ (fun _ _ => ?_) | with_reducible refine Kr1_some ?_ | with_reducible refine Kr1_bo (fun _ => ?_) | with_reducible refine Kr1_T ?_ (fun _ _ _ => ?_) | with_reducible refine Kr1_H ?_ (fun _ _ _ => ?_) (fun _ _ => ?_) | with_reducible exact yr1_hm_Fr_of (by assumption) | with_reducible refine Kr1_ltv (fun _ => ?_) | with_reducible refine Kr1_I ?_ (by decide) | with_reducible refine Kr1_A ?_ (by decide) | with_reducible refine Kr1_J ?_ | with_reducible refine Kr1_L ?_)
theorem yr1_hb_Fr_namesIn_0 {G : Unit} {v0 : Nat} {v1 : Int32} (h : Kr1c u0 u)  : Kr1E u0 (hb_Fr_namesIn_0 N G u v0 v1) := by
  unfold hb_Fr_namesIn_0
  repeat' (first | with_reducible assumption | with_reducible refine Kr1_br ?_ ?_ | with_reducible refine Kr1_bnd ?_ (fun _ _ _ => ?_) | with_reducible refine Kr1_ck ?_ | with_reducible refine Kr1_ltm ?_ (fun _ _ => ?_) | with_reducible refine Kr1_some ?_ | with_reducible refine Kr1_bo (fun _ => ?_) | with_reducible refine Kr1_T ?_ (fun _ _ _ => ?_) | with_reducible refine Kr1_H ?_ (fun _ _ _ => ?_) (fun _ _ => ?_) | with_reducible exact yr1_hb_Fr_namesIn_25 (by assumption) | with_reducible exact yr1_hm_Fr_of (by assumption) | with_reducible refine Kr1_ltv (fun _ => ?_) | with_reducible refine Kr1_I ?_ (by decide) | with_reducible refine Kr1_A ?_ (by decide) | with_reducible refine Kr1_J ?_ | with_reducible refine Kr1_L ?_)
theorem yr1_hm_Fr_namesIn {v0 : Nat} {v1 : Int32} (h : Kr1c u0 u)  : Kr1E u0 (hm_Fr_namesIn N u v0 v1) := by
  unfold hm_Fr_namesIn
  exact yr1_hb_Fr_namesIn_0 h
theorem yr1_hb_Fr_waitsIn_25 {G : Unit} {v0 : Nat} {v1 : Int32} {t0 : Int32} (h : Kr1c u0 u)  : Kr1E u0 (hb_Fr_waitsIn_25 N G u v0 v1 t0) := by
  unfold hb_Fr_waitsIn_25
  repeat' (first | with_reducible assumption | with_reducible refine Kr1_br ?_ ?_ | with_reducible refine Kr1_bnd ?_ (fun _ _ _ => ?_) | with_reducible refine Kr1_ck ?_ | with_reducible refine Kr1_ltm ?_ (fun _ _ => ?_) | with_reducible refine Kr1_some ?_ | with_reducible refine Kr1_bo (fun _ => ?_) | with_reducible refine Kr1_T ?_ (fun _ _ _ => ?_) | with_reducible refine Kr1_H ?_ (fun _ _ _ => ?_) (fun _ _ => ?_) | with_reducible exact yr1_hm_Fr_of (by assumption) | with_reducible refine Kr1_ltv (fun _ => ?_) | with_reducible refine Kr1_I ?_ (by decide) | with_reducible refine Kr1_A ?_ (by decide) | with_reducible refine Kr1_J ?_ | with_reducible refine Kr1_L ?_)
theorem yr1_hb_Fr_waitsIn_0 {G : Unit} {v0 : Nat} {v1 : Int32} (h : Kr1c u0 u)  : Kr1E u0 (hb_Fr_waitsIn_0 N G u v0 v1) := by
  unfold hb_Fr_waitsIn_0
  repeat' (first | with_reducible assumption | with_reducible refine Kr1_br ?_ ?_ | with_reducible refine Kr1_bnd ?_ (fun _ _ _ => ?_) | with_reducible refine Kr1_ck ?_ | with_reducible refine Kr1_ltm ?_ (fun _ _ => ?_) | with_reducible refine Kr1_some ?_ | with_reducible refine Kr1_bo (fun _ => ?_) | with_reducible refine Kr1_T ?_ (fun _ _ _ => ?_) | with_reducible refine Kr1_H ?_ (fun _ _ _ => ?_) (fun _ _ => ?_) | with_reducible exact yr1_hb_Fr_waitsIn_25 (by assumption) | with_reducible exact yr1_hm_Fr_of (by assumption) | with_reducible refine Kr1_ltv (fun _ => ?_) | with_reducible refine Kr1_I ?_ (by decide) | with_reducible refine Kr1_A ?_ (by decide) | with_reducible refine Kr1_J ?_ | with_reducible refine Kr1_L ?_)
theorem yr1_hm_Fr_waitsIn {v0 : Nat} {v1 : Int32} (h : Kr1c u0 u)  : Kr1E u0 (hm_Fr_waitsIn N u v0 v1) := by
  unfold hm_Fr_waitsIn
  exact yr1_hb_Fr_waitsIn_0 h
theorem yr1_hb_H_shown_12 {G : Unit} (h : Kr1c u0 u)  : Kr1E u0 (hb_H_shown_12 N G u) := by
  unfold hb_H_shown_12
  repeat' (first | with_reducible assumption | with_reducible refine Kr1_br ?_ ?_ | with_reducible refine Kr1_bnd ?_ (fun _ _ _ => ?_) | with_reducible refine Kr1_ck ?_ | with_reducible refine Kr1_ltm ?_ (fun _ _ => ?_) | with_reducible refine Kr1_some ?_ | with_reducible refine Kr1_bo (fun _ => ?_) | with_reducible refine Kr1_T ?_ (fun _ _ _ => ?_) | with_reducible refine Kr1_H ?_ (fun _ _ _ => ?_) (fun _ _ => ?_) | with_reducible refine Kr1_ltv (fun _ => ?_) | with_reducible refine Kr1_I ?_ (by decide) | with_reducible refine Kr1_A ?_ (by decide) | with_reducible refine Kr1_J ?_ | with_reducible refine Kr1_L ?_)
theorem yr1_hb_H_shown_0 {G : Unit} {v1 : Int32} (h : Kr1c u0 u)  : Kr1E u0 (hb_H_shown_0 N G u v1) := by
  unfold hb_H_shown_0
  repeat' (first | with_reducible assumption | with_reducible refine Kr1_br ?_ ?_ | with_reducible refine Kr1_bnd ?_ (fun _ _ _ => ?_) | with_reducible refine Kr1_ck ?_ | with_reducible refine Kr1_ltm ?_ (fun _ _ => ?_) | with_reducible refine Kr1_some ?_ | with_reducible refine Kr1_bo (fun _ => ?_) | with_reducible refine Kr1_T ?_ (fun _ _ _ => ?_) | with_reducible refine Kr1_H ?_ (fun _ _ _ => ?_) (fun _ _ => ?_) | with_reducible exact yr1_hb_H_shown_12 (by assumption) | with_reducible refine Kr1_ltv (fun _ => ?_) | with_reducible refine Kr1_I ?_ (by decide) | with_reducible refine Kr1_A ?_ (by decide) | with_reducible refine Kr1_J ?_ | with_reducible refine Kr1_L ?_)
theorem yr1_hm_H_shown {v1 : Int32} (h : Kr1c u0 u)  : Kr1E u0 (hm_H_shown N u v1) := by
  unfold hm_H_shown
  exact yr1_hb_H_shown_0 h
theorem yr1_hb_H_printed_32 {G : Unit} (h : Kr1c u0 u)  : Kr1E u0 (hb_H_printed_32 N G u) := by
  unfold hb_H_printed_32
  repeat' (first | with_reducible assumption | with_reducible refine Kr1_br ?_ ?_ | with_reducible refine Kr1_bnd ?_ (fun _ _ _ => ?_) | with_reducible refine Kr1_ck ?_ | with_reducible refine Kr1_ltm ?_ (fun _ _ => ?_) | with_reducible refine Kr1_some ?_ | with_reducible refine Kr1_bo (fun _ => ?_) | with_reducible refine Kr1_T ?_ (fun _ _ _ => ?_) | with_reducible refine Kr1_H ?_ (fun _ _ _ => ?_) (fun _ _ => ?_) | with_reducible refine Kr1_ltv (fun _ => ?_) | with_reducible refine Kr1_I ?_ (by decide) | with_reducible refine Kr1_A ?_ (by decide) | with_reducible refine Kr1_J ?_ | with_reducible refine Kr1_L ?_)
theorem yr1_hb_H_printed_0 {G : Unit} {v1 : Int32} {v2 : Int32} (h : Kr1c u0 u)  : Kr1E u0 (hb_H_printed_0 N G u v1 v2) := by
  unfold hb_H_printed_0
  repeat' (first | with_reducible assumption | with_reducible refine Kr1_br ?_ ?_ | with_reducible refine Kr1_bnd ?_ (fun _ _ _ => ?_) | with_reducible refine Kr1_ck ?_ | with_reducible refine Kr1_ltm ?_ (fun _ _ => ?_) | with_reducible refine Kr1_some ?_ | with_reducible refine Kr1_bo (fun _ => ?_) | with_reducible refine Kr1_T ?_ (fun _ _ _ => ?_) | with_reducible refine Kr1_H ?_ (fun _ _ _ => ?_) (fun _ _ => ?_) | with_reducible exact yr1_hb_H_printed_32 (by assumption) | with_reducible refine Kr1_ltv (fun _ => ?_) | with_reducible refine Kr1_I ?_ (by decide) | with_reducible refine Kr1_A ?_ (by decide) | with_reducible refine Kr1_J ?_ | with_reducible refine Kr1_L ?_)
theorem yr1_hm_H_printed {v1 : Int32} {v2 : Int32} (h : Kr1c u0 u)  : Kr1E u0 (hm_H_printed N u v1 v2) := by
  unfold hm_H_printed
  exact yr1_hb_H_printed_0 h
theorem yr1_hb_Wl_find_22 {G : Unit} {t0 : Option Nat} (h : Kr1c u0 u)  : Kr1E u0 (hb_Wl_find_22 N G u t0) := by
  unfold hb_Wl_find_22
  repeat' (first | with_reducible assumption | with_reducible refine Kr1_br ?_ ?_ | with_reducible refine Kr1_bnd ?_ (fun _ _ _ => ?_) | with_reducible refine Kr1_ck ?_ | with_reducible refine Kr1_ltm ?_ (fun _ _ => ?_) | with_reducible refine Kr1_some ?_ | with_reducible refine Kr1_bo (fun _ => ?_) | with_reducible refine Kr1_T ?_ (fun _ _ _ => ?_) | with_reducible refine Kr1_H ?_ (fun _ _ _ => ?_) (fun _ _ => ?_) | with_reducible refine Kr1_ltv (fun _ => ?_) | with_reducible refine Kr1_I ?_ (by decide) | with_reducible refine Kr1_A ?_ (by decide) | with_reducible refine Kr1_J ?_ | with_reducible refine Kr1_L ?_)
theorem yr1_hb_Wl_find_12 {G : Unit} (h : Kr1c u0 u)  : Kr1E u0 (hb_Wl_find_12 N G u) := by
  unfold hb_Wl_find_12
  repeat' (first | with_reducible assumption | with_reducible refine Kr1_br ?_ ?_ | with_reducible refine Kr1_bnd ?_ (fun _ _ _ => ?_) | with_reducible refine Kr1_ck ?_ | with_reducible refine Kr1_ltm ?_ (fun _ _ => ?_) | with_reducible refine Kr1_some ?_ | with_reducible refine Kr1_bo (fun _ => ?_) | with_reducible refine Kr1_T ?_ (fun _ _ _ => ?_) | with_reducible refine Kr1_H ?_ (fun _ _ _ => ?_) (fun _ _ => ?_) | with_reducible exact yr1_hb_Wl_find_22 (by assumption) | with_reducible refine Kr1_ltv (fun _ => ?_) | with_reducible refine Kr1_I ?_ (by decide) | with_reducible refine Kr1_A ?_ (by decide) | with_reducible refine Kr1_J ?_ | with_reducible refine Kr1_L ?_)
theorem yr1_hb_Wl_find_0 {G : Unit} {v1 : Int32} (h : Kr1c u0 u)  : Kr1E u0 (hb_Wl_find_0 N G u v1) := by
  unfold hb_Wl_find_0
  repeat' (first | with_reducible assumption | with_reducible refine Kr1_br ?_ ?_ | with_reducible refine Kr1_bnd ?_ (fun _ _ _ => ?_) | with_reducible refine Kr1_ck ?_ | with_reducible refine Kr1_ltm ?_ (fun _ _ => ?_) | with_reducible refine Kr1_some ?_ | with_reducible refine Kr1_bo (fun _ => ?_) | with_reducible refine Kr1_T ?_ (fun _ _ _ => ?_) | with_reducible refine Kr1_H ?_ (fun _ _ _ => ?_) (fun _ _ => ?_) | with_reducible exact yr1_hb_Wl_find_12 (by assumption) | with_reducible exact yr1_hb_Wl_find_22 (by assumption) | with_reducible refine Kr1_ltv (fun _ => ?_) | with_reducible refine Kr1_I ?_ (by decide) | with_reducible refine Kr1_A ?_ (by decide) | with_reducible refine Kr1_J ?_ | with_reducible refine Kr1_L ?_)
theorem yr1_hm_Wl_find {v1 : Int32} (h : Kr1c u0 u)  : Kr1E u0 (hm_Wl_find N u v1) := by
  unfold hm_Wl_find
  exact yr1_hb_Wl_find_0 h
theorem yr1_hb_Pr_wakes_26 {G : Unit} {t0 : Int32} (h : Kr1c u0 u)  : Kr1E u0 (hb_Pr_wakes_26 N G u t0) := by
  unfold hb_Pr_wakes_26
  repeat' (first | with_reducible assumption | with_reducible refine Kr1_br ?_ ?_ | with_reducible refine Kr1_bnd ?_ (fun _ _ _ => ?_) | with_reducible refine Kr1_ck ?_ | with_reducible refine Kr1_ltm ?_ (fun _ _ => ?_) | with_reducible refine Kr1_some ?_ | with_reducible refine Kr1_bo (fun _ => ?_) | with_reducible refine Kr1_T ?_ (fun _ _ _ => ?_) | with_reducible refine Kr1_H ?_ (fun _ _ _ => ?_) (fun _ _ => ?_) | with_reducible refine Kr1_ltv (fun _ => ?_) | with_reducible refine Kr1_I ?_ (by decide) | with_reducible refine Kr1_A ?_ (by decide) | with_reducible refine Kr1_J ?_ | with_reducible refine Kr1_L ?_)
theorem yr1_hb_Pr_wakes_0 {G : Unit} {v0 : Nat} (h : Kr1c u0 u)  : Kr1E u0 (hb_Pr_wakes_0 N G u v0) := by
  unfold hb_Pr_wakes_0
  repeat' (first | with_reducible assumption | with_reducible refine Kr1_br ?_ ?_ | with_reducible refine Kr1_bnd ?_ (fun _ _ _ => ?_) | with_reducible refine Kr1_ck ?_ | with_reducible refine Kr1_ltm ?_ (fun _ _ => ?_) | with_reducible refine Kr1_some ?_ | with_reducible refine Kr1_bo (fun _ => ?_) | with_reducible refine Kr1_T ?_ (fun _ _ _ => ?_) | with_reducible refine Kr1_H ?_ (fun _ _ _ => ?_) (fun _ _ => ?_) | with_reducible exact yr1_hb_Pr_wakes_26 (by assumption) | with_reducible refine Kr1_ltv (fun _ => ?_) | with_reducible refine Kr1_I ?_ (by decide) | with_reducible refine Kr1_A ?_ (by decide) | with_reducible refine Kr1_J ?_ | with_reducible refine Kr1_L ?_)
theorem yr1_hm_Pr_wakes {v0 : Nat} (h : Kr1c u0 u)  : Kr1E u0 (hm_Pr_wakes N u v0) := by
  unfold hm_Pr_wakes
  exact yr1_hb_Pr_wakes_0 h
theorem yr1_hb_H_process_269 {G : Unit} {t0 : Int32} (h : Kr1c u0 u)  : Kr1E u0 (hb_H_process_269 N G u t0) := by
  unfold hb_H_process_269
  repeat' (first | with_reducible assumption | with_reducible refine Kr1_br ?_ ?_ | with_reducible refine Kr1_bnd ?_ (fun _ _ _ => ?_) | with_reducible refine Kr1_ck ?_ | with_reducible refine Kr1_ltm ?_ (fun _ _ => ?_) | with_reducible refine Kr1_some ?_ | with_reducible refine Kr1_bo (fun _ => ?_) | with_reducible refine Kr1_T ?_ (fun _ _ _ => ?_) | with_reducible refine Kr1_H ?_ (fun _ _ _ => ?_) (fun _ _ => ?_) | with_reducible refine Kr1_ltv (fun _ => ?_) | with_reducible refine Kr1_I ?_ (by decide) | with_reducible refine Kr1_A ?_ (by decide) | with_reducible refine Kr1_J ?_ | with_reducible refine Kr1_L ?_)
theorem yr1_hb_H_process_252 {G : Unit} {t0 : Int32} (h : Kr1c u0 u)  : Kr1E u0 (hb_H_process_252 N G u t0) := by
  unfold hb_H_process_252
  repeat' (first | with_reducible assumption | with_reducible refine Kr1_br ?_ ?_ | with_reducible refine Kr1_bnd ?_ (fun _ _ _ => ?_) | with_reducible refine Kr1_ck ?_ | with_reducible refine Kr1_ltm ?_ (fun _ _ => ?_) | with_reducible refine Kr1_some ?_ | with_reducible refine Kr1_bo (fun _ => ?_) | with_reducible refine Kr1_T ?_ (fun _ _ _ => ?_) | with_reducible refine Kr1_H ?_ (fun _ _ _ => ?_) (fun _ _ => ?_) | with_reducible refine Kr1_ltv (fun _ => ?_) | with_reducible refine Kr1_I ?_ (by decide) | with_reducible refine Kr1_A ?_ (by decide) | with_reducible refine Kr1_J ?_ | with_reducible refine Kr1_L ?_)
theorem yr1_hb_H_process_233 {G : Unit} {t0 : Int32} (h : Kr1c u0 u)  : Kr1E u0 (hb_H_process_233 N G u t0) := by
  unfold hb_H_process_233
  repeat' (first | with_reducible assumption | with_reducible refine Kr1_br ?_ ?_ | with_reducible refine Kr1_bnd ?_ (fun _ _ _ => ?_) | with_reducible refine Kr1_ck ?_ | with_reducible refine Kr1_ltm ?_ (fun _ _ => ?_) | with_reducible refine Kr1_some ?_ | with_reducible refine Kr1_bo (fun _ => ?_) | with_reducible refine Kr1_T ?_ (fun _ _ _ => ?_) | with_reducible refine Kr1_H ?_ (fun _ _ _ => ?_) (fun _ _ => ?_) | with_reducible refine Kr1_ltv (fun _ => ?_) | with_reducible refine Kr1_I ?_ (by decide) | with_reducible refine Kr1_A ?_ (by decide) | with_reducible refine Kr1_J ?_ | with_reducible refine Kr1_L ?_)
theorem yr1_hb_H_process_219 {G : Unit} {t0 : Int32} (h : Kr1c u0 u)  : Kr1E u0 (hb_H_process_219 N G u t0) := by
  unfold hb_H_process_219
  repeat' (first | with_reducible assumption | with_reducible refine Kr1_br ?_ ?_ | with_reducible refine Kr1_bnd ?_ (fun _ _ _ => ?_) | with_reducible refine Kr1_ck ?_ | with_reducible refine Kr1_ltm ?_ (fun _ _ => ?_) | with_reducible refine Kr1_some ?_ | with_reducible refine Kr1_bo (fun _ => ?_) | with_reducible refine Kr1_T ?_ (fun _ _ _ => ?_) | with_reducible refine Kr1_H ?_ (fun _ _ _ => ?_) (fun _ _ => ?_) | with_reducible refine Kr1_ltv (fun _ => ?_) | with_reducible refine Kr1_I ?_ (by decide) | with_reducible refine Kr1_A ?_ (by decide) | with_reducible refine Kr1_J ?_ | with_reducible refine Kr1_L ?_)
theorem yr1_hb_H_process_218 {G : Unit} (h : Kr1c u0 u)  : Kr1E u0 (hb_H_process_218 N G u) := by
  unfold hb_H_process_218
  repeat' (first | with_reducible assumption | with_reducible refine Kr1_br ?_ ?_ | with_reducible refine Kr1_bnd ?_ (fun _ _ _ => ?_) | with_reducible refine Kr1_ck ?_ | with_reducible refine Kr1_ltm ?_ (fun _ _ => ?_) | with_reducible refine Kr1_some ?_ | with_reducible refine Kr1_bo (fun _ => ?_) | with_reducible refine Kr1_T ?_ (fun _ _ _ => ?_) | with_reducible refine Kr1_H ?_ (fun _ _ _ => ?_) (fun _ _ => ?_) | with_reducible exact yr1_hb_H_process_219 (by assumption) | with_reducible refine Kr1_ltv (fun _ => ?_) | with_reducible refine Kr1_I ?_ (by decide) | with_reducible refine Kr1_A ?_ (by decide) | with_reducible refine Kr1_J ?_ | with_reducible refine Kr1_L ?_)
theorem yr1_hb_H_process_201 {G : Unit} {t0 : Int32} (h : Kr1c u0 u)  : Kr1E u0 (hb_H_process_201 N G u t0) := by
  unfold hb_H_process_201
  repeat' (first | with_reducible assumption | with_reducible refine Kr1_br ?_ ?_ | with_reducible refine Kr1_bnd ?_ (fun _ _ _ => ?_) | with_reducible refine Kr1_ck ?_ | with_reducible refine Kr1_ltm ?_ (fun _ _ => ?_) | with_reducible refine Kr1_some ?_ | with_reducible refine Kr1_bo (fun _ => ?_) | with_reducible refine Kr1_T ?_ (fun _ _ _ => ?_) | with_reducible refine Kr1_H ?_ (fun _ _ _ => ?_) (fun _ _ => ?_) | with_reducible refine Kr1_ltv (fun _ => ?_) | with_reducible refine Kr1_I ?_ (by decide) | with_reducible refine Kr1_A ?_ (by decide) | with_reducible refine Kr1_J ?_ | with_reducible refine Kr1_L ?_)
theorem yr1_hb_H_process_183 {G : Unit} {t0 : Int32} (h : Kr1c u0 u)  : Kr1E u0 (hb_H_process_183 N G u t0) := by
  unfold hb_H_process_183
  repeat' (first | with_reducible assumption | with_reducible refine Kr1_br ?_ ?_ | with_reducible refine Kr1_bnd ?_ (fun _ _ _ => ?_) | with_reducible refine Kr1_ck ?_ | with_reducible refine Kr1_ltm ?_ (fun _ _ => ?_) | with_reducible refine Kr1_some ?_ | with_reducible refine Kr1_bo (fun _ => ?_) | with_reducible refine Kr1_T ?_ (fun _ _ _ => ?_) | with_reducible refine Kr1_H ?_ (fun _ _ _ => ?_) (fun _ _ => ?_) | with_reducible refine Kr1_ltv (fun _ => ?_) | with_reducible refine Kr1_I ?_ (by decide) | with_reducible refine Kr1_A ?_ (by decide) | with_reducible refine Kr1_J ?_ | with_reducible refine Kr1_L ?_)
theorem yr1_hb_H_process_169 {G : Unit} {t0 : Int32} (h : Kr1c u0 u)  : Kr1E u0 (hb_H_process_169 N G u t0) := by
  unfold hb_H_process_169
  repeat' (first | with_reducible assumption | with_reducible refine Kr1_br ?_ ?_ | with_reducible refine Kr1_bnd ?_ (fun _ _ _ => ?_) | with_reducible refine Kr1_ck ?_ | with_reducible refine Kr1_ltm ?_ (fun _ _ => ?_) | with_reducible refine Kr1_some ?_ | with_reducible refine Kr1_bo (fun _ => ?_) | with_reducible refine Kr1_T ?_ (fun _ _ _ => ?_) | with_reducible refine Kr1_H ?_ (fun _ _ _ => ?_) (fun _ _ => ?_) | with_reducible refine Kr1_ltv (fun _ => ?_) | with_reducible refine Kr1_I ?_ (by decide) | with_reducible refine Kr1_A ?_ (by decide) | with_reducible refine Kr1_J ?_ | with_reducible refine Kr1_L ?_)
theorem yr1_hb_H_process_150 {G : Unit} {t0 : Int32} (h : Kr1c u0 u)  : Kr1E u0 (hb_H_process_150 N G u t0) := by
  unfold hb_H_process_150
  repeat' (first | with_reducible assumption | with_reducible refine Kr1_br ?_ ?_ | with_reducible refine Kr1_bnd ?_ (fun _ _ _ => ?_) | with_reducible refine Kr1_ck ?_ | with_reducible refine Kr1_ltm ?_ (fun _ _ => ?_) | with_reducible refine Kr1_some ?_ | with_reducible refine Kr1_bo (fun _ => ?_) | with_reducible refine Kr1_T ?_ (fun _ _ _ => ?_) | with_reducible refine Kr1_H ?_ (fun _ _ _ => ?_) (fun _ _ => ?_) | with_reducible refine Kr1_ltv (fun _ => ?_) | with_reducible refine Kr1_I ?_ (by decide) | with_reducible refine Kr1_A ?_ (by decide) | with_reducible refine Kr1_J ?_ | with_reducible refine Kr1_L ?_)
theorem yr1_hb_H_process_136 {G : Unit} {t0 : Int32} (h : Kr1c u0 u)  : Kr1E u0 (hb_H_process_136 N G u t0) := by
  unfold hb_H_process_136
  repeat' (first | with_reducible assumption | with_reducible refine Kr1_br ?_ ?_ | with_reducible refine Kr1_bnd ?_ (fun _ _ _ => ?_) | with_reducible refine Kr1_ck ?_ | with_reducible refine Kr1_ltm ?_ (fun _ _ => ?_) | with_reducible refine Kr1_some ?_ | with_reducible refine Kr1_bo (fun _ => ?_) | with_reducible refine Kr1_T ?_ (fun _ _ _ => ?_) | with_reducible refine Kr1_H ?_ (fun _ _ _ => ?_) (fun _ _ => ?_) | with_reducible refine Kr1_ltv (fun _ => ?_) | with_reducible refine Kr1_I ?_ (by decide) | with_reducible refine Kr1_A ?_ (by decide) | with_reducible refine Kr1_J ?_ | with_reducible refine Kr1_L ?_)
theorem yr1_hb_H_process_119 {G : Unit} {t0 : Int32} (h : Kr1c u0 u)  : Kr1E u0 (hb_H_process_119 N G u t0) := by
  unfold hb_H_process_119
  repeat' (first | with_reducible assumption | with_reducible refine Kr1_br ?_ ?_ | with_reducible refine Kr1_bnd ?_ (fun _ _ _ => ?_) | with_reducible refine Kr1_ck ?_ | with_reducible refine Kr1_ltm ?_ (fun _ _ => ?_) | with_reducible refine Kr1_some ?_ | with_reducible refine Kr1_bo (fun _ => ?_) | with_reducible refine Kr1_T ?_ (fun _ _ _ => ?_) | with_reducible refine Kr1_H ?_ (fun _ _ _ => ?_) (fun _ _ => ?_) | with_reducible refine Kr1_ltv (fun _ => ?_) | with_reducible refine Kr1_I ?_ (by decide) | with_reducible refine Kr1_A ?_ (by decide) | with_reducible refine Kr1_J ?_ | with_reducible refine Kr1_L ?_)
theorem yr1_hb_H_process_115 {G : Unit} {v3 : Nat} (h : Kr1c u0 u)  : Kr1E u0 (hb_H_process_115 N G u v3) := by
  unfold hb_H_process_115
  repeat' (first | with_reducible assumption | with_reducible refine Kr1_br ?_ ?_ | with_reducible refine Kr1_bnd ?_ (fun _ _ _ => ?_) | with_reducible refine Kr1_ck ?_ | with_reducible refine Kr1_ltm ?_ (fun _ _ => ?_) | with_reducible refine Kr1_some ?_ | with_reducible refine Kr1_bo (fun _ => ?_) | with_reducible refine Kr1_T ?_ (fun _ _ _ => ?_) | with_reducible refine Kr1_H ?_ (fun _ _ _ => ?_) (fun _ _ => ?_) | with_reducible exact yr1_hb_H_process_119 (by assumption) | with_reducible refine Kr1_ltv (fun _ => ?_) | with_reducible refine Kr1_I ?_ (by decide) | with_reducible refine Kr1_A ?_ (by decide) | with_reducible refine Kr1_J ?_ | with_reducible refine Kr1_L ?_)
theorem yr1_hb_H_process_28 {G : Unit} {v1 : Int32} {v2 : Int32} {v3 : Nat} {t0 : Int32} (h : Kr1c u0 u)  : Kr1E u0 (hb_H_process_28 N G u v1 v2 v3 t0) := by
  unfold hb_H_process_28
  repeat' (first | with_reducible assumption | with_reducible refine Kr1_br ?_ ?_ | with_reducible refine Kr1_bnd ?_ (fun _ _ _ => ?_) | with_reducible refine Kr1_ck ?_ | with_reducible refine Kr1_ltm ?_ (fun _ _ => ?_) | with_reducible refine Kr1_some ?_ | with_reducible refine Kr1_bo (fun _ => ?_) | with_reducible refine Kr1_T ?_ (fun _ _ _ => ?_) | with_reducible refine Kr1_H ?_ (fun _ _ _ => ?_) (fun _ _ => ?_) | with_reducible exact yr1_hb_H_process_115 (by assumption) | with_reducible exact yr1_hb_H_process_119 (by assumption) | with_reducible exact yr1_hb_H_process_136 (by assumption) | with_reducible exact yr1_hb_H_process_150 (by assumption) | with_reducible exact yr1_hb_H_process_169 (by assumption) | with_reducible exact yr1_hb_H_process_183 (by assumption) | with_reducible exact yr1_hb_H_process_201 (by assumption) | with_reducible exact yr1_hb_H_process_218 (by assumption) | with_reducible exact yr1_hb_H_process_219 (by assumption) | with_reducible exact yr1_hb_H_process_233 (by assumption) | with_reducible exact yr1_hb_H_process_252 (by assumption) | with_reducible exact yr1_hb_H_process_269 (by assumption) | with_reducible exact yr1_hm_Wl_watchesOf (by assumption) | with_reducible exact yr1_hm_Wl_isReady (by assumption) | with_reducible exact yr1_hm_Pr_wakes (by assumption) | with_reducible refine Kr1_ltv (fun _ => ?_) | with_reducible refine Kr1_I ?_ (by decide) | with_reducible refine Kr1_A ?_ (by decide) | with_reducible refine Kr1_J ?_ | with_reducible refine Kr1_L ?_)
theorem yr1_hb_H_process_0 {G : Unit} {v1 : Int32} {v2 : Int32} (h : Kr1c u0 u)  : Kr1E u0 (hb_H_process_0 N G u v1 v2) := by
  unfold hb_H_process_0
  repeat' (first | with_reducible assumption | with_reducible refine Kr1_br ?_ ?_ | with_reducible refine Kr1_bnd ?_ (fun _ _ _ => ?_) | with_reducible refine Kr1_ck ?_ | with_reducible refine Kr1_ltm ?_ (fun _ _ => ?_) | with_reducible refine Kr1_some ?_ | with_reducible refine Kr1_bo (fun _ => ?_) | with_reducible refine Kr1_T ?_ (fun _ _ _ => ?_) | with_reducible refine Kr1_H ?_ (fun _ _ _ => ?_) (fun _ _ => ?_) | with_reducible exact yr1_hb_H_process_28 (by assumption) | with_reducible exact yr1_hm_Wl_find (by assumption) | with_reducible refine Kr1_ltv (fun _ => ?_) | with_reducible refine Kr1_I ?_ (by decide) | with_reducible refine Kr1_A ?_ (by decide) | with_reducible refine Kr1_J ?_ | with_reducible refine Kr1_L ?_)
theorem yr1_hm_H_process {v1 : Int32} {v2 : Int32} (h : Kr1c u0 u)  : Kr1E u0 (hm_H_process N u v1 v2) := by
  unfold hm_H_process
  exact yr1_hb_H_process_0 h
theorem yr1_hb_H_frame_40 {G : Unit} (h : Kr1c u0 u)  : Kr1E u0 (hb_H_frame_40 N G u) := by
  unfold hb_H_frame_40
  repeat' (first | with_reducible assumption | with_reducible refine Kr1_br ?_ ?_ | with_reducible refine Kr1_bnd ?_ (fun _ _ _ => ?_) | with_reducible refine Kr1_ck ?_ | with_reducible refine Kr1_ltm ?_ (fun _ _ => ?_) | with_reducible refine Kr1_some ?_ | with_reducible refine Kr1_bo (fun _ => ?_) | with_reducible refine Kr1_T ?_ (fun _ _ _ => ?_) | with_reducible refine Kr1_H ?_ (fun _ _ _ => ?_) (fun _ _ => ?_) | with_reducible refine Kr1_ltv (fun _ => ?_) | with_reducible refine Kr1_I ?_ (by decide) | with_reducible refine Kr1_A ?_ (by decide) | with_reducible refine Kr1_J ?_ | with_reducible refine Kr1_L ?_)
theorem yr1_hb_H_frame_0 {G : Unit} {v1 : Int32} {v2 : Int32} {v3 : Int32} (h : Kr1c u0 u)  : Kr1E u0 (hb_H_frame_0 N G u v1 v2 v3) := by
  unfold hb_H_frame_0
  repeat' (first | with_reducible assumption | with_reducible refine Kr1_br ?_ ?_ | with_reducible refine Kr1_bnd ?_ (fun _ _ _ => ?_) | with_reducible refine Kr1_ck ?_ | with_reducible refine Kr1_ltm ?_ (fun _ _ => ?_) | with_reducible refine Kr1_some ?_ | with_reducible refine Kr1_bo (fun _ => ?_) | with_reducible refine Kr1_T ?_ (fun _ _ _ => ?_) | with_reducible refine Kr1_H ?_ (fun _ _ _ => ?_) (fun _ _ => ?_) | with_reducible exact yr1_hb_H_frame_40 (by assumption) | with_reducible exact yr1_hm_Fr_namesIn (by assumption) | with_reducible exact yr1_hm_Fr_waitsIn (by assumption) | with_reducible exact yr1_hm_Wl_find (by assumption) | with_reducible exact yr1_hm_Fr_of (by assumption) | with_reducible refine Kr1_ltv (fun _ => ?_) | with_reducible refine Kr1_I ?_ (by decide) | with_reducible refine Kr1_A ?_ (by decide) | with_reducible refine Kr1_J ?_ | with_reducible refine Kr1_L ?_)
theorem yr1_hm_H_frame {v1 : Int32} {v2 : Int32} {v3 : Int32} (h : Kr1c u0 u)  : Kr1E u0 (hm_H_frame N u v1 v2 v3) := by
  unfold hm_H_frame
  exact yr1_hb_H_frame_0 h
theorem yr1_hb_H_link_33 {G : Unit} (h : Kr1c u0 u)  : Kr1E u0 (hb_H_link_33 N G u) := by
  unfold hb_H_link_33
  repeat' (first | with_reducible assumption | with_reducible refine Kr1_br ?_ ?_ | with_reducible refine Kr1_bnd ?_ (fun _ _ _ => ?_) | with_reducible refine Kr1_ck ?_ | with_reducible refine Kr1_ltm ?_ (fun _ _ => ?_) | with_reducible refine Kr1_some ?_ | with_reducible refine Kr1_bo (fun _ => ?_) | with_reducible refine Kr1_T ?_ (fun _ _ _ => ?_) | with_reducible refine Kr1_H ?_ (fun _ _ _ => ?_) (fun _ _ => ?_) | with_reducible refine Kr1_ltv (fun _ => ?_) | with_reducible refine Kr1_I ?_ (by decide) | with_reducible refine Kr1_A ?_ (by decide) | with_reducible refine Kr1_J ?_ | with_reducible refine Kr1_L ?_)
theorem yr1_hb_H_link_0 {G : Unit} {v1 : Int32} {v2 : Int32} (h : Kr1c u0 u)  : Kr1E u0 (hb_H_link_0 N G u v1 v2) := by
  unfold hb_H_link_0
  repeat' (first | with_reducible assumption | with_reducible refine Kr1_br ?_ ?_ | with_reducible refine Kr1_bnd ?_ (fun _ _ _ => ?_) | with_reducible refine Kr1_ck ?_ | with_reducible refine Kr1_ltm ?_ (fun _ _ => ?_) | with_reducible refine Kr1_some ?_ | with_reducible refine Kr1_bo (fun _ => ?_) | with_reducible refine Kr1_T ?_ (fun _ _ _ => ?_) | with_reducible refine Kr1_H ?_ (fun _ _ _ => ?_) (fun _ _ => ?_) | with_reducible exact yr1_hb_H_link_33 (by assumption) | with_reducible exact yr1_hm_Wl_find (by assumption) | with_reducible refine Kr1_ltv (fun _ => ?_) | with_reducible refine Kr1_I ?_ (by decide) | with_reducible refine Kr1_A ?_ (by decide) | with_reducible refine Kr1_J ?_ | with_reducible refine Kr1_L ?_)
theorem yr1_hm_H_link {v1 : Int32} {v2 : Int32} (h : Kr1c u0 u)  : Kr1E u0 (hm_H_link N u v1 v2) := by
  unfold hm_H_link
  exact yr1_hb_H_link_0 h
end
end
section
set_option maxRecDepth 100000
def Kx1c (u w : MS) : Prop := (∀ k, k ≠ 865 → k ≠ 866 → k ≠ 1964 → w.1 k = u.1 k) ∧ w.1 1964 = Int32.ofNat 56 ∧ (∀ k, k ≠ 56 → w.2.2.1 k = u.2.2.1 k) ∧ (∀ k, k ≠ 45 → w.2.2.2 k = u.2.2.2 k) ∧ w.2.1 = u.2.1
def Kx1E {α : Type} (u : MS) (o : Option (MS × α)) : Prop := ∀ w r, o = some (w, r) → Kx1c u w
section
variable {α β : Type} {u0 u w : MS} {k : Nat}
theorem Kx1_none : Kx1E u0 (none : Option (MS × α)) := fun _ _ e => by cases e
theorem Kx1_some {r : α} (h : Kx1c u0 w) : Kx1E u0 (some (w, r)) := fun _ _ e => by injection e with e; injection e with e1 _; exact e1 ▸ h
theorem Kx1_br {b : Bool} {p q : Option (MS × α)} (h1 : Kx1E u0 p) (h2 : Kx1E u0 q) : Kx1E u0 (br b p q) := by cases b <;> assumption
theorem Kx1_ck {b : Bool} {p : Option (MS × α)} (h1 : Kx1E u0 p) : Kx1E u0 (ck b p) := by
  cases b
  · exact Kx1_none
  · exact h1
theorem Kx1_bo {o : Option β} {f : β → Option (MS × α)} (h : ∀ j, Kx1E u0 (f j)) : Kx1E u0 (bo o f) := by
  cases o with
  | none => exact Kx1_none
  | some j => exact h j
theorem Kx1_bnd {o : Option (MS × β)} {f : MS → β → Option (MS × α)} (h1 : Kx1E u0 o) (h2 : ∀ w r, Kx1c u0 w → Kx1E u0 (f w r)) : Kx1E u0 (bnd o f) := by
  cases o with
  | none => exact Kx1_none
  | some x => exact h2 x.1 x.2 (h1 x.1 x.2 rfl)
theorem Kx1_T {o : Option (MS × (β ⊕ Nat))} {f : MS → β → Option (MS × (α ⊕ Nat))} (h1 : Kx1E u0 o) (h2 : ∀ w r, Kx1c u0 w → Kx1E u0 (f w r)) : Kx1E u0 (bTm o f) := by
  cases o with
  | none => exact Kx1_none
  | some x =>
    obtain ⟨x, z⟩ := x
    cases z with
    | inl v => exact h2 x v (h1 x _ rfl)
    | inr k => exact Kx1_some (h1 x _ rfl)
theorem Kx1_H {o : Option (MS × (β ⊕ Nat))} {f : MS → β → Option (MS × α)} {g : MS → Option (MS × α)} (h1 : Kx1E u0 o) (h2 : ∀ w r, Kx1c u0 w → Kx1E u0 (f w r)) (h3 : ∀ w, Kx1c u0 w → Kx1E u0 (g w)) : Kx1E u0 (bHm o f g) := by
  cases o with
  | none => exact Kx1_none
  | some x =>
    obtain ⟨x, z⟩ := x
    cases z with
    | inl v => exact h2 x v (h1 x _ rfl)
    | inr k =>
      show Kx1E u0 (if k = 3 then g x else none)
      split
      · exact h3 x (h1 x _ rfl)
      · exact Kx1_none
theorem Kx1_ltm {x : MS} {f : MS → Option (MS × α)} (h1 : Kx1c u0 x) (h2 : ∀ w, Kx1c u0 w → Kx1E u0 (f w)) : Kx1E u0 (lt x f) := h2 x h1
theorem Kx1_ltv {x : β} {f : β → Option (MS × α)} (h2 : ∀ y, Kx1E u0 (f y)) : Kx1E u0 (lt x f) := h2 x
theorem Kx1_I {v : Int32} (h : Kx1c u0 u) (hk : k = 865 ∨ k = 866) : Kx1c u0 (upI u k v) := ⟨fun j h1 h2 h3 => (upI_ne (by omega)).trans (h.1 j h1 h2 h3), (upI_ne (by omega)).trans h.2.1, h.2.2⟩
theorem Kx1_L {v : Int64} (h : False) : Kx1c u0 (upL u k v) := h.elim
theorem Kx1_J {v : Nat → Int64} (h : Kx1c u0 u) : Kx1c u0 (upJ u 45 v) := ⟨h.1, h.2.1, h.2.2.1, fun j hj => (if_neg hj).trans (h.2.2.2.1 j hj), h.2.2.2.2⟩
theorem Kx1_A {v : Nat → Int32} (h : Kx1c u0 u) (hk : k = 56) : Kx1c u0 (upA u k v) := ⟨h.1, h.2.1, fun j hj => (upA_no (by omega)).trans (h.2.2.1 j hj), h.2.2.2⟩
theorem Kx1_boe {o : Option β} {f : β → Option (MS × α)} (h : ∀ j, o = some j → Kx1E u0 (f j)) : Kx1E u0 (bo o f) := by
  cases o with
  | none => exact Kx1_none
  | some j => exact h j rfl
theorem Kx1_56 {j : Nat} (h : Kx1c u0 u) (e : rf (u.1 1964) = some j) : j = 56 := by
  rw [h.2.1] at e
  have e2 : rf (Int32.ofNat 56) = some 56 := rfl
  rw [e2] at e
  injection e with e
  exact e.symm
end
section
variable {u0 u : MS} {N : Nat}
theorem yx1_hb_Te_write_0 {G : Unit} {v1 : Int32} (h : Kx1c u0 u) : Kx1E u0 (hb_Te_write_0 N G u v1) := by
  unfold hb_Te_write_0 hb_Te_write_52
  refine Kx1_br (Kx1_some h) (Kx1_boe (fun j hj => Kx1_br (Kx1_some h) (Kx1_boe (fun j2 h2 => Kx1_ck (Kx1_ltm (Kx1_A h (Kx1_56 h h2)) (fun w hw => Kx1_ltm (Kx1_I hw (by decide)) (fun w2 hw2 => Kx1_some hw2)))))))
theorem yx1_hb_Wo_sign_35 {G : Unit} (h : Kx1c u0 u)  : Kx1E u0 (hb_Wo_sign_35 N G u) := by
  unfold hb_Wo_sign_35
  repeat' (first | with_reducible assumption | with_reducible refine Kx1_br ?_ ?_ | with_reducible refine Kx1_bnd ?_ (fun _ _ _ => ?_) | with_reducible refine Kx1_ck ?_ | with_reducible refine Kx1_ltm ?_ (fun _ _ => ?_) | with_reducible refine Kx1_some ?_ | with_reducible refine Kx1_bo (fun _ => ?_) | with_reducible refine Kx1_T ?_ (fun _ _ _ => ?_) | with_reducible refine Kx1_H ?_ (fun _ _ _ => ?_) (fun _ _ => ?_) | with_reducible refine Kx1_ltv (fun _ => ?_) | with_reducible refine Kx1_I ?_ (by decide) | with_reducible refine Kx1_A ?_ (by decide) | with_reducible refine Kx1_J ?_ | with_reducible refine Kx1_L ?_)
theorem yx1_hb_Wo_sign_0 {G : Unit} {v0 : Nat} {v1 : Int32} {v2 : Int32} (h : Kx1c u0 u)  : Kx1E u0 (hb_Wo_sign_0 N G u v0 v1 v2) := by
  unfold hb_Wo_sign_0
  repeat' (first | with_reducible assumption | with_reducible refine Kx1_br ?_ ?_ | with_reducible refine Kx1_bnd ?_ (fun _ _ _ => ?_) | with_reducible refine Kx1_ck ?_ | with_reducible refine Kx1_ltm ?_ (fun _ _ => ?_) | with_reducible refine Kx1_some ?_ | with_reducible refine Kx1_bo (fun _ => ?_) | with_reducible refine Kx1_T ?_ (fun _ _ _ => ?_) | with_reducible refine Kx1_H ?_ (fun _ _ _ => ?_) (fun _ _ => ?_) | with_reducible exact yx1_hb_Wo_sign_35 (by assumption) | with_reducible refine Kx1_ltv (fun _ => ?_) | with_reducible refine Kx1_I ?_ (by decide) | with_reducible refine Kx1_A ?_ (by decide) | with_reducible refine Kx1_J ?_ | with_reducible refine Kx1_L ?_)
theorem yx1_hm_Wo_sign {v0 : Nat} {v1 : Int32} {v2 : Int32} (h : Kx1c u0 u)  : Kx1E u0 (hm_Wo_sign N u v0 v1 v2) := by
  unfold hm_Wo_sign
  exact yx1_hb_Wo_sign_0 h
theorem yx1_hb_Te_tag_0 {G : Unit} {v0 : Int64} (h : Kx1c u0 u)  : Kx1E u0 (hb_Te_tag_0 N G u v0) := by
  unfold hb_Te_tag_0
  repeat' (first | with_reducible assumption | with_reducible refine Kx1_br ?_ ?_ | with_reducible refine Kx1_bnd ?_ (fun _ _ _ => ?_) | with_reducible refine Kx1_ck ?_ | with_reducible refine Kx1_ltm ?_ (fun _ _ => ?_) | with_reducible refine Kx1_some ?_ | with_reducible refine Kx1_bo (fun _ => ?_) | with_reducible refine Kx1_T ?_ (fun _ _ _ => ?_) | with_reducible refine Kx1_H ?_ (fun _ _ _ => ?_) (fun _ _ => ?_) | with_reducible refine Kx1_ltv (fun _ => ?_) | with_reducible refine Kx1_I ?_ (by decide) | with_reducible refine Kx1_A ?_ (by decide) | with_reducible refine Kx1_J ?_ | with_reducible refine Kx1_L ?_)
theorem yx1_hm_Te_tag {v0 : Int64} (h : Kx1c u0 u)  : Kx1E u0 (hm_Te_tag N u v0) := by
  unfold hm_Te_tag
  exact yx1_hb_Te_tag_0 h
theorem yx1_hb_Te_make_0 {G : Unit} {v0 : Int32} {v1 : Int32} (h : Kx1c u0 u)  : Kx1E u0 (hb_Te_make_0 N G u v0 v1) := by
  unfold hb_Te_make_0
  repeat' (first | with_reducible assumption | with_reducible refine Kx1_br ?_ ?_ | with_reducible refine Kx1_bnd ?_ (fun _ _ _ => ?_) | with_reducible refine Kx1_ck ?_ | with_reducible refine Kx1_ltm ?_ (fun _ _ => ?_) | with_reducible refine Kx1_some ?_ | with_reducible refine Kx1_bo (fun _ => ?_) | with_reducible refine Kx1_T ?_ (fun _ _ _ => ?_) | with_reducible refine Kx1_H ?_ (fun _ _ _ => ?_) (fun _ _ => ?_) | with_reducible refine Kx1_ltv (fun _ => ?_) | with_reducible refine Kx1_I ?_ (by decide) | with_reducible refine Kx1_A ?_ (by decide) | with_reducible refine Kx1_J ?_ | with_reducible refine Kx1_L ?_)
theorem yx1_hm_Te_make {v0 : Int32} {v1 : Int32} (h : Kx1c u0 u)  : Kx1E u0 (hm_Te_make N u v0 v1) := by
  unfold hm_Te_make
  exact yx1_hb_Te_make_0 h
theorem yx1_hb_Te_push_0 {G : Unit} {v1 : Int32} {v2 : Int64} (h : Kx1c u0 u)  : Kx1E u0 (hb_Te_push_0 N G u v1 v2) := by
  unfold hb_Te_push_0
  repeat' (first | with_reducible assumption | with_reducible refine Kx1_br ?_ ?_ | with_reducible refine Kx1_bnd ?_ (fun _ _ _ => ?_) | with_reducible refine Kx1_ck ?_ | with_reducible refine Kx1_ltm ?_ (fun _ _ => ?_) | with_reducible refine Kx1_some ?_ | with_reducible refine Kx1_bo (fun _ => ?_) | with_reducible refine Kx1_T ?_ (fun _ _ _ => ?_) | with_reducible refine Kx1_H ?_ (fun _ _ _ => ?_) (fun _ _ => ?_) | with_reducible refine Kx1_ltv (fun _ => ?_) | with_reducible refine Kx1_I ?_ (by decide) | with_reducible refine Kx1_A ?_ (by decide) | with_reducible refine Kx1_J ?_ | with_reducible refine Kx1_L ?_)
theorem yx1_hm_Te_push {v1 : Int32} {v2 : Int64} (h : Kx1c u0 u)  : Kx1E u0 (hm_Te_push N u v1 v2) := by
  unfold hm_Te_push
  exact yx1_hb_Te_push_0 h
theorem yx1_hb_Te_toWriteTuple_60 {G : (MS → Nat → Int32 → Int32 → Int32 → Option (MS × Int32))} {v1 : Nat} {v2 : Int32} {v4 : Int32} {v5 : Int32} (h : Kx1c u0 u) (hG0 : ∀ (u : MS) a0 a1 a2 a3, Kx1c u0 u → Kx1E u0 (G u a0 a1 a2 a3)) : Kx1E u0 (hb_Te_toWriteTuple_60 N G u v1 v2 v4 v5) := by
  unfold hb_Te_toWriteTuple_60
  repeat' (first | with_reducible assumption | with_reducible refine Kx1_br ?_ ?_ | with_reducible refine Kx1_bnd ?_ (fun _ _ _ => ?_) | with_reducible refine Kx1_ck ?_ | with_reducible refine Kx1_ltm ?_ (fun _ _ => ?_) | with_reducible refine Kx1_some ?_ | with_reducible refine Kx1_bo (fun _ => ?_) | with_reducible refine Kx1_T ?_ (fun _ _ _ => ?_) | with_reducible refine Kx1_H ?_ (fun _ _ _ => ?_) (fun _ _ => ?_) | with_reducible exact hG0 _ _ _ _ _ (by assumption) | with_reducible refine Kx1_ltv (fun _ => ?_) | with_reducible refine Kx1_I ?_ (by decide) | with_reducible refine Kx1_A ?_ (by decide) | with_reducible refine Kx1_J ?_ | with_reducible refine Kx1_L ?_)
theorem yx1_hb_Te_toWriteTuple_20 {G : (MS → Nat → Int32 → Int32 → Int32 → Option (MS × Int32))} {v1 : Nat} {v2 : Int32} {v4 : Int32} {v5 : Int32} (h : Kx1c u0 u) (hG0 : ∀ (u : MS) a0 a1 a2 a3, Kx1c u0 u → Kx1E u0 (G u a0 a1 a2 a3)) : Kx1E u0 (hb_Te_toWriteTuple_20 N G u v1 v2 v4 v5) := by
  unfold hb_Te_toWriteTuple_20
  repeat' (first | with_reducible assumption | with_reducible refine Kx1_br ?_ ?_ | with_reducible refine Kx1_bnd ?_ (fun _ _ _ => ?_) | with_reducible refine Kx1_ck ?_ | with_reducible refine Kx1_ltm ?_ (fun _ _ => ?_) | with_reducible refine Kx1_some ?_ | with_reducible refine Kx1_bo (fun _ => ?_) | with_reducible refine Kx1_T ?_ (fun _ _ _ => ?_) | with_reducible refine Kx1_H ?_ (fun _ _ _ => ?_) (fun _ _ => ?_) | with_reducible exact yx1_hb_Te_toWriteTuple_60 (by assumption) hG0 | with_reducible exact yx1_hm_Te_make (by assumption) | with_reducible exact yx1_hm_Te_push (by assumption) | with_reducible exact hG0 _ _ _ _ _ (by assumption) | with_reducible refine Kx1_ltv (fun _ => ?_) | with_reducible refine Kx1_I ?_ (by decide) | with_reducible refine Kx1_A ?_ (by decide) | with_reducible refine Kx1_J ?_ | with_reducible refine Kx1_L ?_)
theorem yx1_hb_Te_toWriteTuple_0 {G : (MS → Nat → Int32 → Int32 → Int32 → Option (MS × Int32))} {v1 : Nat} {v2 : Int32} {v3 : Int32} (h : Kx1c u0 u) (hG0 : ∀ (u : MS) a0 a1 a2 a3, Kx1c u0 u → Kx1E u0 (G u a0 a1 a2 a3)) : Kx1E u0 (hb_Te_toWriteTuple_0 N G u v1 v2 v3) := by
  unfold hb_Te_toWriteTuple_0
  repeat' (first | with_reducible assumption | with_reducible refine Kx1_br ?_ ?_ | with_reducible refine Kx1_bnd ?_ (fun _ _ _ => ?_) | with_reducible refine Kx1_ck ?_ | with_reducible refine Kx1_ltm ?_ (fun _ _ => ?_) | with_reducible refine Kx1_some ?_ | with_reducible refine Kx1_bo (fun _ => ?_) | with_reducible refine Kx1_T ?_ (fun _ _ _ => ?_) | with_reducible refine Kx1_H ?_ (fun _ _ _ => ?_) (fun _ _ => ?_) | with_reducible exact yx1_hm_Te_make (by assumption) | with_reducible exact yx1_hm_Te_push (by assumption) | with_reducible exact hG0 _ _ _ _ _ (by assumption) | with_reducible refine Kx1_ltv (fun _ => ?_) | with_reducible refine Kx1_I ?_ (by decide) | with_reducible refine Kx1_A ?_ (by decide) | with_reducible refine Kx1_J ?_ | with_reducible refine Kx1_L ?_)
theorem yx1_hg_Te_toWriteTuple  (n : Nat) : (∀ (u : MS) a0 a1 a2 a3, Kx1c u0 u → Kx1E u0 ((hg_Te_toWriteTuple N n) u a0 a1 a2 a3)) := by
  induction n with
  | zero => exact fun _ _ _ _ _ _ => Kx1_none
  | succ n ih => exact fun _ _ _ _ _ h => yx1_hb_Te_toWriteTuple_20 (N := N) h ih
theorem yx1_hm_Te_toWriteTuple {v1 : Nat} {v2 : Int32} {v3 : Int32} (h : Kx1c u0 u)  : Kx1E u0 (hm_Te_toWriteTuple N u v1 v2 v3) := by
  unfold hm_Te_toWriteTuple
  exact yx1_hb_Te_toWriteTuple_0 h ((yx1_hg_Te_toWriteTuple N))
theorem yx1_hb_Te_toWritePair_0 {G : Unit} {v1 : Nat} {v2 : Int32} {v3 : Int32} (h : Kx1c u0 u)  : Kx1E u0 (hb_Te_toWritePair_0 N G u v1 v2 v3) := by
  unfold hb_Te_toWritePair_0
  repeat' (first | with_reducible assumption | with_reducible refine Kx1_br ?_ ?_ | with_reducible refine Kx1_bnd ?_ (fun _ _ _ => ?_) | with_reducible refine Kx1_ck ?_ | with_reducible refine Kx1_ltm ?_ (fun _ _ => ?_) | with_reducible refine Kx1_some ?_ | with_reducible refine Kx1_bo (fun _ => ?_) | with_reducible refine Kx1_T ?_ (fun _ _ _ => ?_) | with_reducible refine Kx1_H ?_ (fun _ _ _ => ?_) (fun _ _ => ?_) | with_reducible exact yx1_hm_Te_make (by assumption) | with_reducible exact yx1_hm_Te_push (by assumption) | with_reducible refine Kx1_ltv (fun _ => ?_) | with_reducible refine Kx1_I ?_ (by decide) | with_reducible refine Kx1_A ?_ (by decide) | with_reducible refine Kx1_J ?_ | with_reducible refine Kx1_L ?_)
theorem yx1_hm_Te_toWritePair {v1 : Nat} {v2 : Int32} {v3 : Int32} (h : Kx1c u0 u)  : Kx1E u0 (hm_Te_toWritePair N u v1 v2 v3) := by
  unfold hm_Te_toWritePair
  exact yx1_hb_Te_toWritePair_0 h
theorem yx1_hb_Wo_length_31 {G : Unit} {t0 : Int32} (h : Kx1c u0 u)  : Kx1E u0 (hb_Wo_length_31 N G u t0) := by
  unfold hb_Wo_length_31
  repeat' (first | with_reducible assumption | with_reducible refine Kx1_br ?_ ?_ | with_reducible refine Kx1_bnd ?_ (fun _ _ _ => ?_) | with_reducible refine Kx1_ck ?_ | with_reducible refine Kx1_ltm ?_ (fun _ _ => ?_) | with_reducible refine Kx1_some ?_ | with_reducible refine Kx1_bo (fun _ => ?_) | with_reducible refine Kx1_T ?_ (fun _ _ _ => ?_) | with_reducible refine Kx1_H ?_ (fun _ _ _ => ?_) (fun _ _ => ?_) | with_reducible refine Kx1_ltv (fun _ => ?_) | with_reducible refine Kx1_I ?_ (by decide) | with_reducible refine Kx1_A ?_ (by decide) | with_reducible refine Kx1_J ?_ | with_reducible refine Kx1_L ?_)
theorem yx1_hb_Wo_length_12 {G : Unit} (h : Kx1c u0 u)  : Kx1E u0 (hb_Wo_length_12 N G u) := by
  unfold hb_Wo_length_12
  repeat' (first | with_reducible assumption | with_reducible refine Kx1_br ?_ ?_ | with_reducible refine Kx1_bnd ?_ (fun _ _ _ => ?_) | with_reducible refine Kx1_ck ?_ | with_reducible refine Kx1_ltm ?_ (fun _ _ => ?_) | with_reducible refine Kx1_some ?_ | with_reducible refine Kx1_bo (fun _ => ?_) | with_reducible refine Kx1_T ?_ (fun _ _ _ => ?_) | with_reducible refine Kx1_H ?_ (fun _ _ _ => ?_) (fun _ _ => ?_) | with_reducible exact yx1_hb_Wo_length_31 (by assumption) | with_reducible refine Kx1_ltv (fun _ => ?_) | with_reducible refine Kx1_I ?_ (by decide) | with_reducible refine Kx1_A ?_ (by decide) | with_reducible refine Kx1_J ?_ | with_reducible refine Kx1_L ?_)
theorem yx1_hb_Wo_length_0 {G : Unit} {v0 : Nat} {v1 : Int32} (h : Kx1c u0 u)  : Kx1E u0 (hb_Wo_length_0 N G u v0 v1) := by
  unfold hb_Wo_length_0
  repeat' (first | with_reducible assumption | with_reducible refine Kx1_br ?_ ?_ | with_reducible refine Kx1_bnd ?_ (fun _ _ _ => ?_) | with_reducible refine Kx1_ck ?_ | with_reducible refine Kx1_ltm ?_ (fun _ _ => ?_) | with_reducible refine Kx1_some ?_ | with_reducible refine Kx1_bo (fun _ => ?_) | with_reducible refine Kx1_T ?_ (fun _ _ _ => ?_) | with_reducible refine Kx1_H ?_ (fun _ _ _ => ?_) (fun _ _ => ?_) | with_reducible exact yx1_hb_Wo_length_12 (by assumption) | with_reducible exact yx1_hb_Wo_length_31 (by assumption) | with_reducible refine Kx1_ltv (fun _ => ?_) | with_reducible refine Kx1_I ?_ (by decide) | with_reducible refine Kx1_A ?_ (by decide) | with_reducible refine Kx1_J ?_ | with_reducible refine Kx1_L ?_)
theorem yx1_hm_Wo_length {v0 : Nat} {v1 : Int32} (h : Kx1c u0 u)  : Kx1E u0 (hm_Wo_length N u v0 v1) := by
  unfold hm_Wo_length
  exact yx1_hb_Wo_length_0 h
theorem yx1_hb_Te_write_52 {G : Unit} (h : Kx1c u0 u)  : Kx1E u0 (hb_Te_write_52 N G u) := by
  unfold hb_Te_write_52
  repeat' (first | with_reducible assumption | with_reducible refine Kx1_br ?_ ?_ | with_reducible refine Kx1_bnd ?_ (fun _ _ _ => ?_) | with_reducible refine Kx1_ck ?_ | with_reducible refine Kx1_ltm ?_ (fun _ _ => ?_) | with_reducible refine Kx1_some ?_ | with_reducible refine Kx1_bo (fun _ => ?_) | with_reducible refine Kx1_T ?_ (fun _ _ _ => ?_) | with_reducible refine Kx1_H ?_ (fun _ _ _ => ?_) (fun _ _ => ?_) | with_reducible refine Kx1_ltv (fun _ => ?_) | with_reducible refine Kx1_I ?_ (by decide) | with_reducible refine Kx1_A ?_ (by decide) | with_reducible refine Kx1_J ?_ | with_reducible refine Kx1_L ?_)
theorem yx1_hm_Te_write {v1 : Int32} (h : Kx1c u0 u)  : Kx1E u0 (hm_Te_write N u v1) := by
  unfold hm_Te_write
  exact yx1_hb_Te_write_0 h
theorem yx1_hb_Te_toWriteRest_19 {G : Unit} {v1 : Nat} {v2 : Int32} {t0 : Int64} (h : Kx1c u0 u)  : Kx1E u0 (hb_Te_toWriteRest_19 N G u v1 v2 t0) := by
  unfold hb_Te_toWriteRest_19
  repeat' (first | with_reducible assumption | with_reducible refine Kx1_br ?_ ?_ | with_reducible refine Kx1_bnd ?_ (fun _ _ _ => ?_) | with_reducible refine Kx1_ck ?_ | with_reducible refine Kx1_ltm ?_ (fun _ _ => ?_) | with_reducible refine Kx1_some ?_ | with_reducible refine Kx1_bo (fun _ => ?_) | with_reducible refine Kx1_T ?_ (fun _ _ _ => ?_) | with_reducible refine Kx1_H ?_ (fun _ _ _ => ?_) (fun _ _ => ?_) | with_reducible exact yx1_hm_Te_toWritePair (by assumption) | with_reducible exact yx1_hm_Te_write (by assumption) | with_reducible exact yx1_hm_Te_make (by assumption) | with_reducible exact yx1_hm_Te_push (by assumption) | with_reducible exact yx1_hm_Te_tag (by assumption) | with_reducible refine Kx1_ltv (fun _ => ?_) | with_reducible refine Kx1_I ?_ (by decide) | with_reducible refine Kx1_A ?_ (by decide) | with_reducible refine Kx1_J ?_ | with_reducible refine Kx1_L ?_)
theorem yx1_hb_Te_toWriteRest_0 {G : Unit} {v1 : Nat} {v2 : Int32} (h : Kx1c u0 u)  : Kx1E u0 (hb_Te_toWriteRest_0 N G u v1 v2) := by
  unfold hb_Te_toWriteRest_0
  repeat' (first | with_reducible assumption | with_reducible refine Kx1_br ?_ ?_ | with_reducible refine Kx1_bnd ?_ (fun _ _ _ => ?_) | with_reducible refine Kx1_ck ?_ | with_reducible refine Kx1_ltm ?_ (fun _ _ => ?_) | with_reducible refine Kx1_some ?_ | with_reducible refine Kx1_bo (fun _ => ?_) | with_reducible refine Kx1_T ?_ (fun _ _ _ => ?_) | with_reducible refine Kx1_H ?_ (fun _ _ _ => ?_) (fun _ _ => ?_) | with_reducible exact yx1_hb_Te_toWriteRest_19 (by assumption) | with_reducible exact yx1_hm_Te_make (by assumption) | with_reducible refine Kx1_ltv (fun _ => ?_) | with_reducible refine Kx1_I ?_ (by decide) | with_reducible refine Kx1_A ?_ (by decide) | with_reducible refine Kx1_J ?_ | with_reducible refine Kx1_L ?_)
theorem yx1_hm_Te_toWriteRest {v1 : Nat} {v2 : Int32} (h : Kx1c u0 u)  : Kx1E u0 (hm_Te_toWriteRest N u v1 v2) := by
  unfold hm_Te_toWriteRest
  exact yx1_hb_Te_toWriteRest_0 h
theorem yx1_hb_Te_writeNumber_43 {G : (MS → Int64 → Int64 → Option (MS × Unit)) × (MS → Int64 → Int64 → Option (MS × Unit))} {v2 : Int64} {v4 : Int64} (h : Kx1c u0 u) (hG0 : ∀ (u : MS) a0 a1, Kx1c u0 u → Kx1E u0 (G.1 u a0 a1)) (hG1 : ∀ (u : MS) a0 a1, Kx1c u0 u → Kx1E u0 (G.2 u a0 a1)) : Kx1E u0 (hb_Te_writeNumber_43 N G u v2 v4) := by
  unfold hb_Te_writeNumber_43
  repeat' (first | with_reducible assumption | with_reducible refine Kx1_br ?_ ?_ | with_reducible refine Kx1_bnd ?_ (fun _ _ _ => ?_) | with_reducible refine Kx1_ck ?_ | with_reducible refine Kx1_ltm ?_ (fun _ _ => ?_) | with_reducible refine Kx1_some ?_ | with_reducible refine Kx1_bo (fun _ => ?_) | with_reducible refine Kx1_T ?_ (fun _ _ _ => ?_) | with_reducible refine Kx1_H ?_ (fun _ _ _ => ?_) (fun _ _ => ?_) | with_reducible exact yx1_hm_Te_write (by assumption) | with_reducible exact hG0 _ _ _ (by assumption) | with_reducible exact hG1 _ _ _ (by assumption) | with_reducible refine Kx1_ltv (fun _ => ?_) | with_reducible refine Kx1_I ?_ (by decide) | with_reducible refine Kx1_A ?_ (by decide) | with_reducible refine Kx1_J ?_ | with_reducible refine Kx1_L ?_)
theorem yx1_hb_Te_writeNumber_21 {G : (MS → Int64 → Int64 → Option (MS × Unit)) × (MS → Int64 → Int64 → Option (MS × Unit))} {v2 : Int64} {v4 : Int64} (h : Kx1c u0 u) (hG0 : ∀ (u : MS) a0 a1, Kx1c u0 u → Kx1E u0 (G.1 u a0 a1)) (hG1 : ∀ (u : MS) a0 a1, Kx1c u0 u → Kx1E u0 (G.2 u a0 a1)) : Kx1E u0 (hb_Te_writeNumber_21 N G u v2 v4) := by
  unfold hb_Te_writeNumber_21
  repeat' (first | with_reducible assumption | with_reducible refine Kx1_br ?_ ?_ | with_reducible refine Kx1_bnd ?_ (fun _ _ _ => ?_) | with_reducible refine Kx1_ck ?_ | with_reducible refine Kx1_ltm ?_ (fun _ _ => ?_) | with_reducible refine Kx1_some ?_ | with_reducible refine Kx1_bo (fun _ => ?_) | with_reducible refine Kx1_T ?_ (fun _ _ _ => ?_) | with_reducible refine Kx1_H ?_ (fun _ _ _ => ?_) (fun _ _ => ?_) | with_reducible exact hG0 _ _ _ (by assumption) | with_reducible exact hG1 _ _ _ (by assumption) | with_reducible refine Kx1_ltv (fun _ => ?_) | with_reducible refine Kx1_I ?_ (by decide) | with_reducible refine Kx1_A ?_ (by decide) | with_reducible refine Kx1_J ?_ | with_reducible refine Kx1_L ?_)
theorem yx1_hb_Te_writeNumber_18 {G : (MS → Int64 → Int64 → Option (MS × Unit)) × (MS → Int64 → Int64 → Option (MS × Unit))} {v2 : Int64} (h : Kx1c u0 u) (hG0 : ∀ (u : MS) a0 a1, Kx1c u0 u → Kx1E u0 (G.1 u a0 a1)) (hG1 : ∀ (u : MS) a0 a1, Kx1c u0 u → Kx1E u0 (G.2 u a0 a1)) : Kx1E u0 (hb_Te_writeNumber_18 N G u v2) := by
  unfold hb_Te_writeNumber_18
  repeat' (first | with_reducible assumption | with_reducible refine Kx1_br ?_ ?_ | with_reducible refine Kx1_bnd ?_ (fun _ _ _ => ?_) | with_reducible refine Kx1_ck ?_ | with_reducible refine Kx1_ltm ?_ (fun _ _ => ?_) | with_reducible refine Kx1_some ?_ | with_reducible refine Kx1_bo (fun _ => ?_) | with_reducible refine Kx1_T ?_ (fun _ _ _ => ?_) | with_reducible refine Kx1_H ?_ (fun _ _ _ => ?_) (fun _ _ => ?_) | with_reducible exact hG0 _ _ _ (by assumption) | with_reducible exact hG1 _ _ _ (by assumption) | with_reducible refine Kx1_ltv (fun _ => ?_) | with_reducible refine Kx1_I ?_ (by decide) | with_reducible refine Kx1_A ?_ (by decide) | with_reducible refine Kx1_J ?_ | with_reducible refine Kx1_L ?_)
theorem yx1_hb_Te_writeNumber_0 {G : (MS → Int64 → Int64 → Option (MS × Unit)) × (MS → Int64 → Int64 → Option (MS × Unit))} {v1 : Int32} (h : Kx1c u0 u) (hG0 : ∀ (u : MS) a0 a1, Kx1c u0 u → Kx1E u0 (G.1 u a0 a1)) (hG1 : ∀ (u : MS) a0 a1, Kx1c u0 u → Kx1E u0 (G.2 u a0 a1)) : Kx1E u0 (hb_Te_writeNumber_0 N G u v1) := by
  unfold hb_Te_writeNumber_0
  repeat' (first | with_reducible assumption | with_reducible refine Kx1_br ?_ ?_ | with_reducible refine Kx1_bnd ?_ (fun _ _ _ => ?_) | with_reducible refine Kx1_ck ?_ | with_reducible refine Kx1_ltm ?_ (fun _ _ => ?_) | with_reducible refine Kx1_some ?_ | with_reducible refine Kx1_bo (fun _ => ?_) | with_reducible refine Kx1_T ?_ (fun _ _ _ => ?_) | with_reducible refine Kx1_H ?_ (fun _ _ _ => ?_) (fun _ _ => ?_) | with_reducible exact yx1_hb_Te_writeNumber_18 (by assumption) hG0 hG1 | with_reducible exact yx1_hm_Te_write (by assumption) | with_reducible exact hG0 _ _ _ (by assumption) | with_reducible exact hG1 _ _ _ (by assumption) | with_reducible refine Kx1_ltv (fun _ => ?_) | with_reducible refine Kx1_I ?_ (by decide) | with_reducible refine Kx1_A ?_ (by decide) | with_reducible refine Kx1_J ?_ | with_reducible refine Kx1_L ?_)
theorem yx1_hg_Te_writeNumber  (n : Nat) : (∀ (u : MS) a0 a1, Kx1c u0 u → Kx1E u0 ((hg_Te_writeNumber N n).1 u a0 a1)) ∧ (∀ (u : MS) a0 a1, Kx1c u0 u → Kx1E u0 ((hg_Te_writeNumber N n).2 u a0 a1)) := by
  induction n with
  | zero => exact ⟨fun _ _ _ _ => Kx1_none, fun _ _ _ _ => Kx1_none⟩
  | succ n ih => exact ⟨fun _ _ _ h => yx1_hb_Te_writeNumber_21 (N := N) h ih.1 ih.2, fun _ _ _ h => yx1_hb_Te_writeNumber_43 (N := N) h ih.1 ih.2⟩
theorem yx1_hm_Te_writeNumber {v1 : Int32} (h : Kx1c u0 u)  : Kx1E u0 (hm_Te_writeNumber N u v1) := by
  unfold hm_Te_writeNumber
  exact yx1_hb_Te_writeNumber_0 h ((yx1_hg_Te_writeNumber N).1) ((yx1_hg_Te_writeNumber N).2)
theorem yx1_hb_Te_writeAlone_170 {G : (MS → Int32 → Int32 → Option (MS × Unit))} (h : Kx1c u0 u) (hG0 : ∀ (u : MS) a0 a1, Kx1c u0 u → Kx1E u0 (G u a0 a1)) : Kx1E u0 (hb_Te_writeAlone_170 N G u) := by
  unfold hb_Te_writeAlone_170
  repeat' (first | with_reducible assumption | with_reducible refine Kx1_br ?_ ?_ | with_reducible refine Kx1_bnd ?_ (fun _ _ _ => ?_) | with_reducible refine Kx1_ck ?_ | with_reducible refine Kx1_ltm ?_ (fun _ _ => ?_) | with_reducible refine Kx1_some ?_ | with_reducible refine Kx1_bo (fun _ => ?_) | with_reducible refine Kx1_T ?_ (fun _ _ _ => ?_) | with_reducible refine Kx1_H ?_ (fun _ _ _ => ?_) (fun _ _ => ?_) | with_reducible exact hG0 _ _ _ (by assumption) | with_reducible refine Kx1_ltv (fun _ => ?_) | with_reducible refine Kx1_I ?_ (by decide) | with_reducible refine Kx1_A ?_ (by decide) | with_reducible refine Kx1_J ?_ | with_reducible refine Kx1_L ?_)
theorem yx1_hb_Te_writeAlone_59 {G : (MS → Int32 → Int32 → Option (MS × Unit))} {v3 : Int32} {v4 : Int32} (h : Kx1c u0 u) (hG0 : ∀ (u : MS) a0 a1, Kx1c u0 u → Kx1E u0 (G u a0 a1)) : Kx1E u0 (hb_Te_writeAlone_59 N G u v3 v4) := by
  unfold hb_Te_writeAlone_59
  repeat' (first | with_reducible assumption | with_reducible refine Kx1_br ?_ ?_ | with_reducible refine Kx1_bnd ?_ (fun _ _ _ => ?_) | with_reducible refine Kx1_ck ?_ | with_reducible refine Kx1_ltm ?_ (fun _ _ => ?_) | with_reducible refine Kx1_some ?_ | with_reducible refine Kx1_bo (fun _ => ?_) | with_reducible refine Kx1_T ?_ (fun _ _ _ => ?_) | with_reducible refine Kx1_H ?_ (fun _ _ _ => ?_) (fun _ _ => ?_) | with_reducible exact yx1_hb_Te_writeAlone_170 (by assumption) hG0 | with_reducible exact yx1_hm_Wo_length (by assumption) | with_reducible exact yx1_hm_Te_write (by assumption) | with_reducible exact yx1_hm_Wo_sign (by assumption) | with_reducible exact hG0 _ _ _ (by assumption) | with_reducible refine Kx1_ltv (fun _ => ?_) | with_reducible refine Kx1_I ?_ (by decide) | with_reducible refine Kx1_A ?_ (by decide) | with_reducible refine Kx1_J ?_ | with_reducible refine Kx1_L ?_)
theorem yx1_hb_Te_writeAlone_0 {G : (MS → Int32 → Int32 → Option (MS × Unit))} {v1 : Int64} (h : Kx1c u0 u) (hG0 : ∀ (u : MS) a0 a1, Kx1c u0 u → Kx1E u0 (G u a0 a1)) : Kx1E u0 (hb_Te_writeAlone_0 N G u v1) := by
  unfold hb_Te_writeAlone_0
  repeat' (first | with_reducible assumption | with_reducible refine Kx1_br ?_ ?_ | with_reducible refine Kx1_bnd ?_ (fun _ _ _ => ?_) | with_reducible refine Kx1_ck ?_ | with_reducible refine Kx1_ltm ?_ (fun _ _ => ?_) | with_reducible refine Kx1_some ?_ | with_reducible refine Kx1_bo (fun _ => ?_) | with_reducible refine Kx1_T ?_ (fun _ _ _ => ?_) | with_reducible refine Kx1_H ?_ (fun _ _ _ => ?_) (fun _ _ => ?_) | with_reducible exact yx1_hb_Te_writeAlone_170 (by assumption) hG0 | with_reducible exact yx1_hm_Te_writeNumber (by assumption) | with_reducible exact yx1_hm_Te_write (by assumption) | with_reducible exact yx1_hm_Te_tag (by assumption) | with_reducible exact hG0 _ _ _ (by assumption) | with_reducible refine Kx1_ltv (fun _ => ?_) | with_reducible refine Kx1_I ?_ (by decide) | with_reducible refine Kx1_A ?_ (by decide) | with_reducible refine Kx1_J ?_ | with_reducible refine Kx1_L ?_)
theorem yx1_hg_Te_writeAlone  (n : Nat) : (∀ (u : MS) a0 a1, Kx1c u0 u → Kx1E u0 ((hg_Te_writeAlone N n) u a0 a1)) := by
  induction n with
  | zero => exact fun _ _ _ _ => Kx1_none
  | succ n ih => exact fun _ _ _ h => yx1_hb_Te_writeAlone_59 (N := N) h ih
theorem yx1_hm_Te_writeAlone {v1 : Int64} (h : Kx1c u0 u)  : Kx1E u0 (hm_Te_writeAlone N u v1) := by
  unfold hm_Te_writeAlone
  exact yx1_hb_Te_writeAlone_0 h ((yx1_hg_Te_writeAlone N))
theorem yx1_hb_Te_text_174 {G : (MS → Nat → Int32 → Int32 → Option (MS × Int32))} (h : Kx1c u0 u) (hG0 : ∀ (u : MS) a0 a1 a2, Kx1c u0 u → Kx1E u0 (G u a0 a1 a2)) : Kx1E u0 (hb_Te_text_174 N G u) := by
  unfold hb_Te_text_174
  repeat' (first | with_reducible assumption | with_reducible refine Kx1_br ?_ ?_ | with_reducible refine Kx1_bnd ?_ (fun _ _ _ => ?_) | with_reducible refine Kx1_ck ?_ | with_reducible refine Kx1_ltm ?_ (fun _ _ => ?_) | with_reducible refine Kx1_some ?_ | with_reducible refine Kx1_bo (fun _ => ?_) | with_reducible refine Kx1_T ?_ (fun _ _ _ => ?_) | with_reducible refine Kx1_H ?_ (fun _ _ _ => ?_) (fun _ _ => ?_) | with_reducible exact hG0 _ _ _ _ (by assumption) | with_reducible refine Kx1_ltv (fun _ => ?_) | with_reducible refine Kx1_I ?_ (by decide) | with_reducible refine Kx1_A ?_ (by decide) | with_reducible refine Kx1_J ?_ | with_reducible refine Kx1_L ?_)
theorem yx1_hb_Te_text_168 {G : (MS → Nat → Int32 → Int32 → Option (MS × Int32))} {v1 : Nat} {v6 : Int32} {v7 : Int32} (h : Kx1c u0 u) (hG0 : ∀ (u : MS) a0 a1 a2, Kx1c u0 u → Kx1E u0 (G u a0 a1 a2)) : Kx1E u0 (hb_Te_text_168 N G u v1 v6 v7) := by
  unfold hb_Te_text_168
  repeat' (first | with_reducible assumption | with_reducible refine Kx1_br ?_ ?_ | with_reducible refine Kx1_bnd ?_ (fun _ _ _ => ?_) | with_reducible refine Kx1_ck ?_ | with_reducible refine Kx1_ltm ?_ (fun _ _ => ?_) | with_reducible refine Kx1_some ?_ | with_reducible refine Kx1_bo (fun _ => ?_) | with_reducible refine Kx1_T ?_ (fun _ _ _ => ?_) | with_reducible refine Kx1_H ?_ (fun _ _ _ => ?_) (fun _ _ => ?_) | with_reducible exact hG0 _ _ _ _ (by assumption) | with_reducible refine Kx1_ltv (fun _ => ?_) | with_reducible refine Kx1_I ?_ (by decide) | with_reducible refine Kx1_A ?_ (by decide) | with_reducible refine Kx1_J ?_ | with_reducible refine Kx1_L ?_)
theorem yx1_hb_Te_text_30 {G : (MS → Nat → Int32 → Int32 → Option (MS × Int32))} {v1 : Nat} {v6 : Int32} {v7 : Int32} (h : Kx1c u0 u) (hG0 : ∀ (u : MS) a0 a1 a2, Kx1c u0 u → Kx1E u0 (G u a0 a1 a2)) : Kx1E u0 (hb_Te_text_30 N G u v1 v6 v7) := by
  unfold hb_Te_text_30
  repeat' (first | with_reducible assumption | with_reducible refine Kx1_br ?_ ?_ | with_reducible refine Kx1_bnd ?_ (fun _ _ _ => ?_) | with_reducible refine Kx1_ck ?_ | with_reducible refine Kx1_ltm ?_ (fun _ _ => ?_) | with_reducible refine Kx1_some ?_ | with_reducible refine Kx1_bo (fun _ => ?_) | with_reducible refine Kx1_T ?_ (fun _ _ _ => ?_) | with_reducible refine Kx1_H ?_ (fun _ _ _ => ?_) (fun _ _ => ?_) | with_reducible exact yx1_hb_Te_text_168 (by assumption) hG0 | with_reducible exact yx1_hb_Te_text_174 (by assumption) hG0 | with_reducible exact yx1_hm_Te_toWriteTuple (by assumption) | with_reducible exact yx1_hm_Te_toWritePair (by assumption) | with_reducible exact yx1_hm_Te_toWriteRest (by assumption) | with_reducible exact yx1_hm_Te_writeAlone (by assumption) | with_reducible exact yx1_hm_Te_write (by assumption) | with_reducible exact yx1_hm_Te_tag (by assumption) | with_reducible exact hG0 _ _ _ _ (by assumption) | with_reducible refine Kx1_ltv (fun _ => ?_) | with_reducible refine Kx1_I ?_ (by decide) | with_reducible refine Kx1_A ?_ (by decide) | with_reducible refine Kx1_J ?_ | with_reducible refine Kx1_L ?_)
theorem yx1_hg_Te_text  (n : Nat) : (∀ (u : MS) a0 a1 a2, Kx1c u0 u → Kx1E u0 ((hg_Te_text N n) u a0 a1 a2)) := by
  induction n with
  | zero => exact fun _ _ _ _ _ => Kx1_none
  | succ n ih => exact fun _ _ _ _ h => yx1_hb_Te_text_30 (N := N) h ih
end
end
section
set_option maxRecDepth 100000
def Kw1c (u w : MS) : Prop := (∀ k, k ∉ [3, 5, 130, 144] → w.1 k = u.1 k) ∧ (∀ k, k ∉ [4, 129, 143] → w.2.2.1 k = u.2.2.1 k) ∧ (∀ k, k ≠ 141 → w.2.2.2 k = u.2.2.2 k) ∧ w.2.1 = u.2.1
def Kw1E {α : Type} (u : MS) (o : Option (MS × α)) : Prop := ∀ w r, o = some (w, r) → Kw1c u w
section
variable {α β : Type} {u0 u w : MS} {k : Nat}
theorem Kw1_none : Kw1E u0 (none : Option (MS × α)) := fun _ _ e => by cases e
theorem Kw1_some {r : α} (h : Kw1c u0 w) : Kw1E u0 (some (w, r)) := fun _ _ e => by injection e with e; injection e with e1 _; exact e1 ▸ h
theorem Kw1_br {b : Bool} {p q : Option (MS × α)} (h1 : Kw1E u0 p) (h2 : Kw1E u0 q) : Kw1E u0 (br b p q) := by cases b <;> assumption
theorem Kw1_ck {b : Bool} {p : Option (MS × α)} (h1 : Kw1E u0 p) : Kw1E u0 (ck b p) := by
  cases b
  · exact Kw1_none
  · exact h1
theorem Kw1_bo {o : Option β} {f : β → Option (MS × α)} (h : ∀ j, Kw1E u0 (f j)) : Kw1E u0 (bo o f) := by
  cases o with
  | none => exact Kw1_none
  | some j => exact h j
theorem Kw1_bnd {o : Option (MS × β)} {f : MS → β → Option (MS × α)} (h1 : Kw1E u0 o) (h2 : ∀ w r, Kw1c u0 w → Kw1E u0 (f w r)) : Kw1E u0 (bnd o f) := by
  cases o with
  | none => exact Kw1_none
  | some x => exact h2 x.1 x.2 (h1 x.1 x.2 rfl)
theorem Kw1_T {o : Option (MS × (β ⊕ Nat))} {f : MS → β → Option (MS × (α ⊕ Nat))} (h1 : Kw1E u0 o) (h2 : ∀ w r, Kw1c u0 w → Kw1E u0 (f w r)) : Kw1E u0 (bTm o f) := by
  cases o with
  | none => exact Kw1_none
  | some x =>
    obtain ⟨x, z⟩ := x
    cases z with
    | inl v => exact h2 x v (h1 x _ rfl)
    | inr k => exact Kw1_some (h1 x _ rfl)
theorem Kw1_H {o : Option (MS × (β ⊕ Nat))} {f : MS → β → Option (MS × α)} {g : MS → Option (MS × α)} (h1 : Kw1E u0 o) (h2 : ∀ w r, Kw1c u0 w → Kw1E u0 (f w r)) (h3 : ∀ w, Kw1c u0 w → Kw1E u0 (g w)) : Kw1E u0 (bHm o f g) := by
  cases o with
  | none => exact Kw1_none
  | some x =>
    obtain ⟨x, z⟩ := x
    cases z with
    | inl v => exact h2 x v (h1 x _ rfl)
    | inr k =>
      show Kw1E u0 (if k = 3 then g x else none)
      split
      · exact h3 x (h1 x _ rfl)
      · exact Kw1_none
theorem Kw1_ltm {x : MS} {f : MS → Option (MS × α)} (h1 : Kw1c u0 x) (h2 : ∀ w, Kw1c u0 w → Kw1E u0 (f w)) : Kw1E u0 (lt x f) := h2 x h1
theorem Kw1_ltv {x : β} {f : β → Option (MS × α)} (h2 : ∀ y, Kw1E u0 (f y)) : Kw1E u0 (lt x f) := h2 x
theorem Kw1_I {v : Int32} (h : Kw1c u0 u) (hk : k ∈ [3, 5, 130, 144]) : Kw1c u0 (upI u k v) := ⟨fun j hj => (upI_ne (fun e => hj (by rw [e]; exact hk))).trans (h.1 j hj), h.2⟩
theorem Kw1_L {v : Int64} (h : False) : Kw1c u0 (upL u k v) := h.elim
theorem Kw1_J {v : Nat → Int64} (h : Kw1c u0 u) : Kw1c u0 (upJ u 141 v) := ⟨h.1, h.2.1, fun j hj => (if_neg hj).trans (h.2.2.1 j hj), h.2.2.2⟩
theorem Kw1_A {v : Nat → Int32} (h : Kw1c u0 u) (hk : k ∈ [4, 129, 143]) : Kw1c u0 (upA u k v) := ⟨h.1, fun j hj => (upA_no (fun e => hj (by rw [e]; exact hk))).trans (h.2.1 j hj), h.2.2⟩
theorem Kw1_rf : Kw1c u u := ⟨fun _ _ => rfl, fun _ _ => rfl, fun _ _ => rfl, rfl⟩
end
section
variable {u0 u : MS} {N : Nat}
theorem yw1_fb_M_feed_76 {G : (MS → Int32 → Int32 → Int32 → Int32 → Int32 → Int32 → Option (MS × Int32))} {v1 : Int32} {v2 : Int32} {v3 : Int32} {v4 : Int32} {v5 : Int32} {v6 : Int32} {t0 : Int32} (h : Kw1c u0 u) (hG0 : ∀ (u : MS) a0 a1 a2 a3 a4 a5, Kw1c u0 u → Kw1E u0 (G u a0 a1 a2 a3 a4 a5)) : Kw1E u0 (fb_M_feed_76 N G u v1 v2 v3 v4 v5 v6 t0) := by
  unfold fb_M_feed_76
  repeat' (first | with_reducible assumption | with_reducible refine Kw1_br ?_ ?_ | with_reducible refine Kw1_bnd ?_ (fun _ _ _ => ?_) | with_reducible refine Kw1_ck ?_ | with_reducible refine Kw1_ltm ?_ (fun _ _ => ?_) | with_reducible refine Kw1_some ?_ | with_reducible refine Kw1_bo (fun _ => ?_) | with_reducible refine Kw1_T ?_ (fun _ _ _ => ?_) | with_reducible refine Kw1_H ?_ (fun _ _ _ => ?_) (fun _ _ => ?_) | with_reducible exact hG0 _ _ _ _ _ _ _ (by assumption) | with_reducible refine Kw1_ltv (fun _ => ?_) | with_reducible refine Kw1_I ?_ (by decide) | with_reducible refine Kw1_A ?_ (by decide) | with_reducible refine Kw1_J ?_ | with_reducible refine Kw1_L ?_)
theorem yw1_fb_M_feed_23 {G : (MS → Int32 → Int32 → Int32 → Int32 → Int32 → Int32 → Option (MS × Int32))} {v1 : Int32} {v2 : Int32} {v3 : Int32} {v4 : Int32} {v5 : Int32} {v6 : Int32} (h : Kw1c u0 u) (hG0 : ∀ (u : MS) a0 a1 a2 a3 a4 a5, Kw1c u0 u → Kw1E u0 (G u a0 a1 a2 a3 a4 a5)) : Kw1E u0 (fb_M_feed_23 N G u v1 v2 v3 v4 v5 v6) := by
  unfold fb_M_feed_23
  repeat' (first | with_reducible assumption | with_reducible refine Kw1_br ?_ ?_ | with_reducible refine Kw1_bnd ?_ (fun _ _ _ => ?_) | with_reducible refine Kw1_ck ?_ | with_reducible refine Kw1_ltm ?_ (fun _ _ => ?_) | with_reducible refine Kw1_some ?_ | with_reducible refine Kw1_bo (fun _ => ?_) | with_reducible refine Kw1_T ?_ (fun _ _ _ => ?_) | with_reducible refine Kw1_H ?_ (fun _ _ _ => ?_) (fun _ _ => ?_) | with_reducible exact yw1_fb_M_feed_76 (by assumption) hG0 | with_reducible exact hG0 _ _ _ _ _ _ _ (by assumption) | with_reducible refine Kw1_ltv (fun _ => ?_) | with_reducible refine Kw1_I ?_ (by decide) | with_reducible refine Kw1_A ?_ (by decide) | with_reducible refine Kw1_J ?_ | with_reducible refine Kw1_L ?_)
theorem yw1_fb_M_feed_0 {G : (MS → Int32 → Int32 → Int32 → Int32 → Int32 → Int32 → Option (MS × Int32))} {v1 : Int32} {v2 : Int32} {v3 : Int32} {v4 : Int32} {v5 : Int32} (h : Kw1c u0 u) (hG0 : ∀ (u : MS) a0 a1 a2 a3 a4 a5, Kw1c u0 u → Kw1E u0 (G u a0 a1 a2 a3 a4 a5)) : Kw1E u0 (fb_M_feed_0 N G u v1 v2 v3 v4 v5) := by
  unfold fb_M_feed_0
  repeat' (first | with_reducible assumption | with_reducible refine Kw1_br ?_ ?_ | with_reducible refine Kw1_bnd ?_ (fun _ _ _ => ?_) | with_reducible refine Kw1_ck ?_ | with_reducible refine Kw1_ltm ?_ (fun _ _ => ?_) | with_reducible refine Kw1_some ?_ | with_reducible refine Kw1_bo (fun _ => ?_) | with_reducible refine Kw1_T ?_ (fun _ _ _ => ?_) | with_reducible refine Kw1_H ?_ (fun _ _ _ => ?_) (fun _ _ => ?_) | with_reducible exact hG0 _ _ _ _ _ _ _ (by assumption) | with_reducible refine Kw1_ltv (fun _ => ?_) | with_reducible refine Kw1_I ?_ (by decide) | with_reducible refine Kw1_A ?_ (by decide) | with_reducible refine Kw1_J ?_ | with_reducible refine Kw1_L ?_)
theorem yw1_gg_M_feed  (n : Nat) : (∀ (u : MS) a0 a1 a2 a3 a4 a5, Kw1c u0 u → Kw1E u0 ((gg_M_feed N n) u a0 a1 a2 a3 a4 a5)) := by
  induction n with
  | zero => exact fun _ _ _ _ _ _ _ _ => Kw1_none
  | succ n ih => exact fun _ _ _ _ _ _ _ h => yw1_fb_M_feed_23 (N := N) h ih
theorem yw1_fm_M_feed {v1 : Int32} {v2 : Int32} {v3 : Int32} {v4 : Int32} {v5 : Int32} (h : Kw1c u0 u)  : Kw1E u0 (fm_M_feed N u v1 v2 v3 v4 v5) := by
  unfold fm_M_feed
  exact yw1_fb_M_feed_0 h ((yw1_gg_M_feed N))
theorem yw1_fb_M_back_17 {G : Unit} (h : Kw1c u0 u)  : Kw1E u0 (fb_M_back_17 N G u) := by
  unfold fb_M_back_17
  repeat' (first | with_reducible assumption | with_reducible refine Kw1_br ?_ ?_ | with_reducible refine Kw1_bnd ?_ (fun _ _ _ => ?_) | with_reducible refine Kw1_ck ?_ | with_reducible refine Kw1_ltm ?_ (fun _ _ => ?_) | with_reducible refine Kw1_some ?_ | with_reducible refine Kw1_bo (fun _ => ?_) | with_reducible refine Kw1_T ?_ (fun _ _ _ => ?_) | with_reducible refine Kw1_H ?_ (fun _ _ _ => ?_) (fun _ _ => ?_) | with_reducible refine Kw1_ltv (fun _ => ?_) | with_reducible refine Kw1_I ?_ (by decide) | with_reducible refine Kw1_A ?_ (by decide) | with_reducible refine Kw1_J ?_ | with_reducible refine Kw1_L ?_)
theorem yw1_fb_M_back_0 {G : Unit} {v1 : Int32} (h : Kw1c u0 u)  : Kw1E u0 (fb_M_back_0 N G u v1) := by
  unfold fb_M_back_0
  repeat' (first | with_reducible assumption | with_reducible refine Kw1_br ?_ ?_ | with_reducible refine Kw1_bnd ?_ (fun _ _ _ => ?_) | with_reducible refine Kw1_ck ?_ | with_reducible refine Kw1_ltm ?_ (fun _ _ => ?_) | with_reducible refine Kw1_some ?_ | with_reducible refine Kw1_bo (fun _ => ?_) | with_reducible refine Kw1_T ?_ (fun _ _ _ => ?_) | with_reducible refine Kw1_H ?_ (fun _ _ _ => ?_) (fun _ _ => ?_) | with_reducible exact yw1_fb_M_back_17 (by assumption) | with_reducible refine Kw1_ltv (fun _ => ?_) | with_reducible refine Kw1_I ?_ (by decide) | with_reducible refine Kw1_A ?_ (by decide) | with_reducible refine Kw1_J ?_ | with_reducible refine Kw1_L ?_)
theorem yw1_fm_M_back {v1 : Int32} (h : Kw1c u0 u)  : Kw1E u0 (fm_M_back N u v1) := by
  unfold fm_M_back
  exact yw1_fb_M_back_0 h
theorem yw1_fb_M_term_0 {G : Unit} {v0 : Int32} {v1 : Int32} (h : Kw1c u0 u)  : Kw1E u0 (fb_M_term_0 N G u v0 v1) := by
  unfold fb_M_term_0
  repeat' (first | with_reducible assumption | with_reducible refine Kw1_br ?_ ?_ | with_reducible refine Kw1_bnd ?_ (fun _ _ _ => ?_) | with_reducible refine Kw1_ck ?_ | with_reducible refine Kw1_ltm ?_ (fun _ _ => ?_) | with_reducible refine Kw1_some ?_ | with_reducible refine Kw1_bo (fun _ => ?_) | with_reducible refine Kw1_T ?_ (fun _ _ _ => ?_) | with_reducible refine Kw1_H ?_ (fun _ _ _ => ?_) (fun _ _ => ?_) | with_reducible refine Kw1_ltv (fun _ => ?_) | with_reducible refine Kw1_I ?_ (by decide) | with_reducible refine Kw1_A ?_ (by decide) | with_reducible refine Kw1_J ?_ | with_reducible refine Kw1_L ?_)
theorem yw1_fm_M_term {v0 : Int32} {v1 : Int32} (h : Kw1c u0 u)  : Kw1E u0 (fm_M_term N u v0 v1) := by
  unfold fm_M_term
  exact yw1_fb_M_term_0 h
theorem yw1_fb_M_sortOf_0 {G : Unit} {v0 : Int64} (h : Kw1c u0 u)  : Kw1E u0 (fb_M_sortOf_0 N G u v0) := by
  unfold fb_M_sortOf_0
  repeat' (first | with_reducible assumption | with_reducible refine Kw1_br ?_ ?_ | with_reducible refine Kw1_bnd ?_ (fun _ _ _ => ?_) | with_reducible refine Kw1_ck ?_ | with_reducible refine Kw1_ltm ?_ (fun _ _ => ?_) | with_reducible refine Kw1_some ?_ | with_reducible refine Kw1_bo (fun _ => ?_) | with_reducible refine Kw1_T ?_ (fun _ _ _ => ?_) | with_reducible refine Kw1_H ?_ (fun _ _ _ => ?_) (fun _ _ => ?_) | with_reducible refine Kw1_ltv (fun _ => ?_) | with_reducible refine Kw1_I ?_ (by decide) | with_reducible refine Kw1_A ?_ (by decide) | with_reducible refine Kw1_J ?_ | with_reducible refine Kw1_L ?_)
theorem yw1_fm_M_sortOf {v0 : Int64} (h : Kw1c u0 u)  : Kw1E u0 (fm_M_sortOf N u v0) := by
  unfold fm_M_sortOf
  exact yw1_fb_M_sortOf_0 h
theorem yw1_fb_M_valueOf_0 {G : Unit} {v0 : Int64} (h : Kw1c u0 u)  : Kw1E u0 (fb_M_valueOf_0 N G u v0) := by
  unfold fb_M_valueOf_0
  repeat' (first | with_reducible assumption | with_reducible refine Kw1_br ?_ ?_ | with_reducible refine Kw1_bnd ?_ (fun _ _ _ => ?_) | with_reducible refine Kw1_ck ?_ | with_reducible refine Kw1_ltm ?_ (fun _ _ => ?_) | with_reducible refine Kw1_some ?_ | with_reducible refine Kw1_bo (fun _ => ?_) | with_reducible refine Kw1_T ?_ (fun _ _ _ => ?_) | with_reducible refine Kw1_H ?_ (fun _ _ _ => ?_) (fun _ _ => ?_) | with_reducible refine Kw1_ltv (fun _ => ?_) | with_reducible refine Kw1_I ?_ (by decide) | with_reducible refine Kw1_A ?_ (by decide) | with_reducible refine Kw1_J ?_ | with_reducible refine Kw1_L ?_)
theorem yw1_fm_M_valueOf {v0 : Int64} (h : Kw1c u0 u)  : Kw1E u0 (fm_M_valueOf N u v0) := by
  unfold fm_M_valueOf
  exact yw1_fb_M_valueOf_0 h
theorem yw1_fb_M_function1_87 {G : Unit} {t0 : Int32} (h : Kw1c u0 u)  : Kw1E u0 (fb_M_function1_87 N G u t0) := by
  unfold fb_M_function1_87
  repeat' (first | with_reducible assumption | with_reducible refine Kw1_br ?_ ?_ | with_reducible refine Kw1_bnd ?_ (fun _ _ _ => ?_) | with_reducible refine Kw1_ck ?_ | with_reducible refine Kw1_ltm ?_ (fun _ _ => ?_) | with_reducible refine Kw1_some ?_ | with_reducible refine Kw1_bo (fun _ => ?_) | with_reducible refine Kw1_T ?_ (fun _ _ _ => ?_) | with_reducible refine Kw1_H ?_ (fun _ _ _ => ?_) (fun _ _ => ?_) | with_reducible refine Kw1_ltv (fun _ => ?_) | with_reducible refine Kw1_I ?_ (by decide) | with_reducible refine Kw1_A ?_ (by decide) | with_reducible refine Kw1_J ?_ | with_reducible refine Kw1_L ?_)
theorem yw1_fb_M_function1_33 {G : Unit} (h : Kw1c u0 u)  : Kw1E u0 (fb_M_function1_33 N G u) := by
  unfold fb_M_function1_33
  repeat' (first | with_reducible assumption | with_reducible refine Kw1_br ?_ ?_ | with_reducible refine Kw1_bnd ?_ (fun _ _ _ => ?_) | with_reducible refine Kw1_ck ?_ | with_reducible refine Kw1_ltm ?_ (fun _ _ => ?_) | with_reducible refine Kw1_some ?_ | with_reducible refine Kw1_bo (fun _ => ?_) | with_reducible refine Kw1_T ?_ (fun _ _ _ => ?_) | with_reducible refine Kw1_H ?_ (fun _ _ _ => ?_) (fun _ _ => ?_) | with_reducible refine Kw1_ltv (fun _ => ?_) | with_reducible refine Kw1_I ?_ (by decide) | with_reducible refine Kw1_A ?_ (by decide) | with_reducible refine Kw1_J ?_ | with_reducible refine Kw1_L ?_)
theorem yw1_fb_M_function1_0 {G : Unit} {v1 : Int32} {v2 : Int32} (h : Kw1c u0 u)  : Kw1E u0 (fb_M_function1_0 N G u v1 v2) := by
  unfold fb_M_function1_0
  repeat' (first | with_reducible assumption | with_reducible refine Kw1_br ?_ ?_ | with_reducible refine Kw1_bnd ?_ (fun _ _ _ => ?_) | with_reducible refine Kw1_ck ?_ | with_reducible refine Kw1_ltm ?_ (fun _ _ => ?_) | with_reducible refine Kw1_some ?_ | with_reducible refine Kw1_bo (fun _ => ?_) | with_reducible refine Kw1_T ?_ (fun _ _ _ => ?_) | with_reducible refine Kw1_H ?_ (fun _ _ _ => ?_) (fun _ _ => ?_) | with_reducible exact yw1_fb_M_function1_33 (by assumption) | with_reducible exact yw1_fb_M_function1_87 (by assumption) | with_reducible refine Kw1_ltv (fun _ => ?_) | with_reducible refine Kw1_I ?_ (by decide) | with_reducible refine Kw1_A ?_ (by decide) | with_reducible refine Kw1_J ?_ | with_reducible refine Kw1_L ?_)
theorem yw1_fm_M_function1 {v1 : Int32} {v2 : Int32} (h : Kw1c u0 u)  : Kw1E u0 (fm_M_function1 N u v1 v2) := by
  unfold fm_M_function1
  exact yw1_fb_M_function1_0 h
theorem yw1_fb_M_letter_47 {G : Unit} (h : Kw1c u0 u)  : Kw1E u0 (fb_M_letter_47 N G u) := by
  unfold fb_M_letter_47
  repeat' (first | with_reducible assumption | with_reducible refine Kw1_br ?_ ?_ | with_reducible refine Kw1_bnd ?_ (fun _ _ _ => ?_) | with_reducible refine Kw1_ck ?_ | with_reducible refine Kw1_ltm ?_ (fun _ _ => ?_) | with_reducible refine Kw1_some ?_ | with_reducible refine Kw1_bo (fun _ => ?_) | with_reducible refine Kw1_T ?_ (fun _ _ _ => ?_) | with_reducible refine Kw1_H ?_ (fun _ _ _ => ?_) (fun _ _ => ?_) | with_reducible refine Kw1_ltv (fun _ => ?_) | with_reducible refine Kw1_I ?_ (by decide) | with_reducible refine Kw1_A ?_ (by decide) | with_reducible refine Kw1_J ?_ | with_reducible refine Kw1_L ?_)
theorem yw1_fb_M_letter_0 {G : Unit} {v1 : Int32} {v2 : Int32} (h : Kw1c u0 u)  : Kw1E u0 (fb_M_letter_0 N G u v1 v2) := by
  unfold fb_M_letter_0
  repeat' (first | with_reducible assumption | with_reducible refine Kw1_br ?_ ?_ | with_reducible refine Kw1_bnd ?_ (fun _ _ _ => ?_) | with_reducible refine Kw1_ck ?_ | with_reducible refine Kw1_ltm ?_ (fun _ _ => ?_) | with_reducible refine Kw1_some ?_ | with_reducible refine Kw1_bo (fun _ => ?_) | with_reducible refine Kw1_T ?_ (fun _ _ _ => ?_) | with_reducible refine Kw1_H ?_ (fun _ _ _ => ?_) (fun _ _ => ?_) | with_reducible exact yw1_fb_M_letter_47 (by assumption) | with_reducible refine Kw1_ltv (fun _ => ?_) | with_reducible refine Kw1_I ?_ (by decide) | with_reducible refine Kw1_A ?_ (by decide) | with_reducible refine Kw1_J ?_ | with_reducible refine Kw1_L ?_)
theorem yw1_fm_M_letter {v1 : Int32} {v2 : Int32} (h : Kw1c u0 u)  : Kw1E u0 (fm_M_letter N u v1 v2) := by
  unfold fm_M_letter
  exact yw1_fb_M_letter_0 h
theorem yw1_fb_M_cell_0 {G : Unit} {v1 : Int32} {v2 : Int32} (h : Kw1c u0 u)  : Kw1E u0 (fb_M_cell_0 N G u v1 v2) := by
  unfold fb_M_cell_0
  repeat' (first | with_reducible assumption | with_reducible refine Kw1_br ?_ ?_ | with_reducible refine Kw1_bnd ?_ (fun _ _ _ => ?_) | with_reducible refine Kw1_ck ?_ | with_reducible refine Kw1_ltm ?_ (fun _ _ => ?_) | with_reducible refine Kw1_some ?_ | with_reducible refine Kw1_bo (fun _ => ?_) | with_reducible refine Kw1_T ?_ (fun _ _ _ => ?_) | with_reducible refine Kw1_H ?_ (fun _ _ _ => ?_) (fun _ _ => ?_) | with_reducible refine Kw1_ltv (fun _ => ?_) | with_reducible refine Kw1_I ?_ (by decide) | with_reducible refine Kw1_A ?_ (by decide) | with_reducible refine Kw1_J ?_ | with_reducible refine Kw1_L ?_)
theorem yw1_fm_M_cell {v1 : Int32} {v2 : Int32} (h : Kw1c u0 u)  : Kw1E u0 (fm_M_cell N u v1 v2) := by
  unfold fm_M_cell
  exact yw1_fb_M_cell_0 h
theorem yw1_fb_M_sign_20 {G : Unit} (h : Kw1c u0 u)  : Kw1E u0 (fb_M_sign_20 N G u) := by
  unfold fb_M_sign_20
  repeat' (first | with_reducible assumption | with_reducible refine Kw1_br ?_ ?_ | with_reducible refine Kw1_bnd ?_ (fun _ _ _ => ?_) | with_reducible refine Kw1_ck ?_ | with_reducible refine Kw1_ltm ?_ (fun _ _ => ?_) | with_reducible refine Kw1_some ?_ | with_reducible refine Kw1_bo (fun _ => ?_) | with_reducible refine Kw1_T ?_ (fun _ _ _ => ?_) | with_reducible refine Kw1_H ?_ (fun _ _ _ => ?_) (fun _ _ => ?_) | with_reducible refine Kw1_ltv (fun _ => ?_) | with_reducible refine Kw1_I ?_ (by decide) | with_reducible refine Kw1_A ?_ (by decide) | with_reducible refine Kw1_J ?_ | with_reducible refine Kw1_L ?_)
theorem yw1_fb_M_sign_0 {G : Unit} {v1 : Int32} (h : Kw1c u0 u)  : Kw1E u0 (fb_M_sign_0 N G u v1) := by
  unfold fb_M_sign_0
  repeat' (first | with_reducible assumption | with_reducible refine Kw1_br ?_ ?_ | with_reducible refine Kw1_bnd ?_ (fun _ _ _ => ?_) | with_reducible refine Kw1_ck ?_ | with_reducible refine Kw1_ltm ?_ (fun _ _ => ?_) | with_reducible refine Kw1_some ?_ | with_reducible refine Kw1_bo (fun _ => ?_) | with_reducible refine Kw1_T ?_ (fun _ _ _ => ?_) | with_reducible refine Kw1_H ?_ (fun _ _ _ => ?_) (fun _ _ => ?_) | with_reducible exact yw1_fb_M_sign_20 (by assumption) | with_reducible refine Kw1_ltv (fun _ => ?_) | with_reducible refine Kw1_I ?_ (by decide) | with_reducible refine Kw1_A ?_ (by decide) | with_reducible refine Kw1_J ?_ | with_reducible refine Kw1_L ?_)
theorem yw1_fm_M_sign {v1 : Int32} (h : Kw1c u0 u)  : Kw1E u0 (fm_M_sign N u v1) := by
  unfold fm_M_sign
  exact yw1_fb_M_sign_0 h
theorem yw1_fb_M_digits_48 {G : (MS → Int32 → Int64 → Int64 → Option (MS × Unit)) × (MS → Int64 → Int64 → Option (MS × Unit))} {v2 : Int64} {v4 : Int64} (h : Kw1c u0 u) (hG0 : ∀ (u : MS) a0 a1 a2, Kw1c u0 u → Kw1E u0 (G.1 u a0 a1 a2)) (hG1 : ∀ (u : MS) a0 a1, Kw1c u0 u → Kw1E u0 (G.2 u a0 a1)) : Kw1E u0 (fb_M_digits_48 N G u v2 v4) := by
  unfold fb_M_digits_48
  repeat' (first | with_reducible assumption | with_reducible refine Kw1_br ?_ ?_ | with_reducible refine Kw1_bnd ?_ (fun _ _ _ => ?_) | with_reducible refine Kw1_ck ?_ | with_reducible refine Kw1_ltm ?_ (fun _ _ => ?_) | with_reducible refine Kw1_some ?_ | with_reducible refine Kw1_bo (fun _ => ?_) | with_reducible refine Kw1_T ?_ (fun _ _ _ => ?_) | with_reducible refine Kw1_H ?_ (fun _ _ _ => ?_) (fun _ _ => ?_) | with_reducible exact yw1_fm_M_sign (by assumption) | with_reducible exact hG0 _ _ _ _ (by assumption) | with_reducible exact hG1 _ _ _ (by assumption) | with_reducible refine Kw1_ltv (fun _ => ?_) | with_reducible refine Kw1_I ?_ (by decide) | with_reducible refine Kw1_A ?_ (by decide) | with_reducible refine Kw1_J ?_ | with_reducible refine Kw1_L ?_)
theorem yw1_fb_M_digits_16 {G : (MS → Int32 → Int64 → Int64 → Option (MS × Unit)) × (MS → Int64 → Int64 → Option (MS × Unit))} {v1 : Int32} {v2 : Int64} {v4 : Int64} (h : Kw1c u0 u) (hG0 : ∀ (u : MS) a0 a1 a2, Kw1c u0 u → Kw1E u0 (G.1 u a0 a1 a2)) (hG1 : ∀ (u : MS) a0 a1, Kw1c u0 u → Kw1E u0 (G.2 u a0 a1)) : Kw1E u0 (fb_M_digits_16 N G u v1 v2 v4) := by
  unfold fb_M_digits_16
  repeat' (first | with_reducible assumption | with_reducible refine Kw1_br ?_ ?_ | with_reducible refine Kw1_bnd ?_ (fun _ _ _ => ?_) | with_reducible refine Kw1_ck ?_ | with_reducible refine Kw1_ltm ?_ (fun _ _ => ?_) | with_reducible refine Kw1_some ?_ | with_reducible refine Kw1_bo (fun _ => ?_) | with_reducible refine Kw1_T ?_ (fun _ _ _ => ?_) | with_reducible refine Kw1_H ?_ (fun _ _ _ => ?_) (fun _ _ => ?_) | with_reducible exact yw1_fm_M_sign (by assumption) | with_reducible exact hG0 _ _ _ _ (by assumption) | with_reducible exact hG1 _ _ _ (by assumption) | with_reducible refine Kw1_ltv (fun _ => ?_) | with_reducible refine Kw1_I ?_ (by decide) | with_reducible refine Kw1_A ?_ (by decide) | with_reducible refine Kw1_J ?_ | with_reducible refine Kw1_L ?_)
theorem yw1_fb_M_digits_12 {G : (MS → Int32 → Int64 → Int64 → Option (MS × Unit)) × (MS → Int64 → Int64 → Option (MS × Unit))} {v1 : Int32} {t0 : Int64} (h : Kw1c u0 u) (hG0 : ∀ (u : MS) a0 a1 a2, Kw1c u0 u → Kw1E u0 (G.1 u a0 a1 a2)) (hG1 : ∀ (u : MS) a0 a1, Kw1c u0 u → Kw1E u0 (G.2 u a0 a1)) : Kw1E u0 (fb_M_digits_12 N G u v1 t0) := by
  unfold fb_M_digits_12
  repeat' (first | with_reducible assumption | with_reducible refine Kw1_br ?_ ?_ | with_reducible refine Kw1_bnd ?_ (fun _ _ _ => ?_) | with_reducible refine Kw1_ck ?_ | with_reducible refine Kw1_ltm ?_ (fun _ _ => ?_) | with_reducible refine Kw1_some ?_ | with_reducible refine Kw1_bo (fun _ => ?_) | with_reducible refine Kw1_T ?_ (fun _ _ _ => ?_) | with_reducible refine Kw1_H ?_ (fun _ _ _ => ?_) (fun _ _ => ?_) | with_reducible exact hG0 _ _ _ _ (by assumption) | with_reducible exact hG1 _ _ _ (by assumption) | with_reducible refine Kw1_ltv (fun _ => ?_) | with_reducible refine Kw1_I ?_ (by decide) | with_reducible refine Kw1_A ?_ (by decide) | with_reducible refine Kw1_J ?_ | with_reducible refine Kw1_L ?_)
theorem yw1_fb_M_digits_0 {G : (MS → Int32 → Int64 → Int64 → Option (MS × Unit)) × (MS → Int64 → Int64 → Option (MS × Unit))} {v1 : Int32} (h : Kw1c u0 u) (hG0 : ∀ (u : MS) a0 a1 a2, Kw1c u0 u → Kw1E u0 (G.1 u a0 a1 a2)) (hG1 : ∀ (u : MS) a0 a1, Kw1c u0 u → Kw1E u0 (G.2 u a0 a1)) : Kw1E u0 (fb_M_digits_0 N G u v1) := by
  unfold fb_M_digits_0
  repeat' (first | with_reducible assumption | with_reducible refine Kw1_br ?_ ?_ | with_reducible refine Kw1_bnd ?_ (fun _ _ _ => ?_) | with_reducible refine Kw1_ck ?_ | with_reducible refine Kw1_ltm ?_ (fun _ _ => ?_) | with_reducible refine Kw1_some ?_ | with_reducible refine Kw1_bo (fun _ => ?_) | with_reducible refine Kw1_T ?_ (fun _ _ _ => ?_) | with_reducible refine Kw1_H ?_ (fun _ _ _ => ?_) (fun _ _ => ?_) | with_reducible exact yw1_fb_M_digits_12 (by assumption) hG0 hG1 | with_reducible exact hG0 _ _ _ _ (by assumption) | with_reducible exact hG1 _ _ _ (by assumption) | with_reducible refine Kw1_ltv (fun _ => ?_) | with_reducible refine Kw1_I ?_ (by decide) | with_reducible refine Kw1_A ?_ (by decide) | with_reducible refine Kw1_J ?_ | with_reducible refine Kw1_L ?_)
theorem yw1_gg_M_digits  (n : Nat) : (∀ (u : MS) a0 a1 a2, Kw1c u0 u → Kw1E u0 ((gg_M_digits N n).1 u a0 a1 a2)) ∧ (∀ (u : MS) a0 a1, Kw1c u0 u → Kw1E u0 ((gg_M_digits N n).2 u a0 a1)) := by
  induction n with
  | zero => exact ⟨fun _ _ _ _ _ => Kw1_none, fun _ _ _ _ => Kw1_none⟩
  | succ n ih => exact ⟨fun _ _ _ _ h => yw1_fb_M_digits_16 (N := N) h ih.1 ih.2, fun _ _ _ h => yw1_fb_M_digits_48 (N := N) h ih.1 ih.2⟩
theorem yw1_fm_M_digits {v1 : Int32} (h : Kw1c u0 u)  : Kw1E u0 (fm_M_digits N u v1) := by
  unfold fm_M_digits
  exact yw1_fb_M_digits_0 h ((yw1_gg_M_digits N).1) ((yw1_gg_M_digits N).2)
theorem yw1_fb_M_restOfList_124 {G : Unit} {v6 : Int32} (h : Kw1c u0 u)  : Kw1E u0 (fb_M_restOfList_124 N G u v6) := by
  unfold fb_M_restOfList_124
  repeat' (first | with_reducible assumption | with_reducible refine Kw1_br ?_ ?_ | with_reducible refine Kw1_bnd ?_ (fun _ _ _ => ?_) | with_reducible refine Kw1_ck ?_ | with_reducible refine Kw1_ltm ?_ (fun _ _ => ?_) | with_reducible refine Kw1_some ?_ | with_reducible refine Kw1_bo (fun _ => ?_) | with_reducible refine Kw1_T ?_ (fun _ _ _ => ?_) | with_reducible refine Kw1_H ?_ (fun _ _ _ => ?_) (fun _ _ => ?_) | with_reducible refine Kw1_ltv (fun _ => ?_) | with_reducible refine Kw1_I ?_ (by decide) | with_reducible refine Kw1_A ?_ (by decide) | with_reducible refine Kw1_J ?_ | with_reducible refine Kw1_L ?_)
theorem yw1_fb_M_restOfList_0 {G : Unit} {v1 : Int32} {v2 : Int32} {v3 : Int32} (h : Kw1c u0 u)  : Kw1E u0 (fb_M_restOfList_0 N G u v1 v2 v3) := by
  unfold fb_M_restOfList_0
  repeat' (first | with_reducible assumption | with_reducible refine Kw1_br ?_ ?_ | with_reducible refine Kw1_bnd ?_ (fun _ _ _ => ?_) | with_reducible refine Kw1_ck ?_ | with_reducible refine Kw1_ltm ?_ (fun _ _ => ?_) | with_reducible refine Kw1_some ?_ | with_reducible refine Kw1_bo (fun _ => ?_) | with_reducible refine Kw1_T ?_ (fun _ _ _ => ?_) | with_reducible refine Kw1_H ?_ (fun _ _ _ => ?_) (fun _ _ => ?_) | with_reducible exact yw1_fb_M_restOfList_124 (by assumption) | with_reducible exact yw1_fm_M_valueOf (by assumption) | with_reducible exact yw1_fm_M_sortOf (by assumption) | with_reducible exact yw1_fm_M_cell (by assumption) | with_reducible exact yw1_fm_M_sign (by assumption) | with_reducible exact yw1_fm_M_term (by assumption) | with_reducible refine Kw1_ltv (fun _ => ?_) | with_reducible refine Kw1_I ?_ (by decide) | with_reducible refine Kw1_A ?_ (by decide) | with_reducible refine Kw1_J ?_ | with_reducible refine Kw1_L ?_)
theorem yw1_fm_M_restOfList {v1 : Int32} {v2 : Int32} {v3 : Int32} (h : Kw1c u0 u)  : Kw1E u0 (fm_M_restOfList N u v1 v2 v3) := by
  unfold fm_M_restOfList
  exact yw1_fb_M_restOfList_0 h
theorem yw1_fb_M_writeOn_387 {G : (MS → Int32 → Int32 → Option (MS × Unit)) × (MS → Int32 → Int32 → Int32 → Int32 → Option (MS × Unit)) × (MS → Int32 → Int32 → Int32 → Int32 → Option (MS × Unit))} (h : Kw1c u0 u) (hG0 : ∀ (u : MS) a0 a1, Kw1c u0 u → Kw1E u0 (G.1 u a0 a1)) (hG1 : ∀ (u : MS) a0 a1 a2 a3, Kw1c u0 u → Kw1E u0 (G.2.1 u a0 a1 a2 a3)) (hG2 : ∀ (u : MS) a0 a1 a2 a3, Kw1c u0 u → Kw1E u0 (G.2.2 u a0 a1 a2 a3)) : Kw1E u0 (fb_M_writeOn_387 N G u) := by
  unfold fb_M_writeOn_387
  repeat' (first | with_reducible assumption | with_reducible refine Kw1_br ?_ ?_ | with_reducible refine Kw1_bnd ?_ (fun _ _ _ => ?_) | with_reducible refine Kw1_ck ?_ | with_reducible refine Kw1_ltm ?_ (fun _ _ => ?_) | with_reducible refine Kw1_some ?_ | with_reducible refine Kw1_bo (fun _ => ?_) | with_reducible refine Kw1_T ?_ (fun _ _ _ => ?_) | with_reducible refine Kw1_H ?_ (fun _ _ _ => ?_) (fun _ _ => ?_) | with_reducible exact hG0 _ _ _ (by assumption) | with_reducible exact hG1 _ _ _ _ _ (by assumption) | with_reducible exact hG2 _ _ _ _ _ (by assumption) | with_reducible refine Kw1_ltv (fun _ => ?_) | with_reducible refine Kw1_I ?_ (by decide) | with_reducible refine Kw1_A ?_ (by decide) | with_reducible refine Kw1_J ?_ | with_reducible refine Kw1_L ?_)
theorem yw1_fb_M_writeOn_384 {G : (MS → Int32 → Int32 → Option (MS × Unit)) × (MS → Int32 → Int32 → Int32 → Int32 → Option (MS × Unit)) × (MS → Int32 → Int32 → Int32 → Int32 → Option (MS × Unit))} {v1 : Int32} {v4 : Int32} (h : Kw1c u0 u) (hG0 : ∀ (u : MS) a0 a1, Kw1c u0 u → Kw1E u0 (G.1 u a0 a1)) (hG1 : ∀ (u : MS) a0 a1 a2 a3, Kw1c u0 u → Kw1E u0 (G.2.1 u a0 a1 a2 a3)) (hG2 : ∀ (u : MS) a0 a1 a2 a3, Kw1c u0 u → Kw1E u0 (G.2.2 u a0 a1 a2 a3)) : Kw1E u0 (fb_M_writeOn_384 N G u v1 v4) := by
  unfold fb_M_writeOn_384
  repeat' (first | with_reducible assumption | with_reducible refine Kw1_br ?_ ?_ | with_reducible refine Kw1_bnd ?_ (fun _ _ _ => ?_) | with_reducible refine Kw1_ck ?_ | with_reducible refine Kw1_ltm ?_ (fun _ _ => ?_) | with_reducible refine Kw1_some ?_ | with_reducible refine Kw1_bo (fun _ => ?_) | with_reducible refine Kw1_T ?_ (fun _ _ _ => ?_) | with_reducible refine Kw1_H ?_ (fun _ _ _ => ?_) (fun _ _ => ?_) | with_reducible exact hG0 _ _ _ (by assumption) | with_reducible exact hG1 _ _ _ _ _ (by assumption) | with_reducible exact hG2 _ _ _ _ _ (by assumption) | with_reducible refine Kw1_ltv (fun _ => ?_) | with_reducible refine Kw1_I ?_ (by decide) | with_reducible refine Kw1_A ?_ (by decide) | with_reducible refine Kw1_J ?_ | with_reducible refine Kw1_L ?_)
theorem yw1_fb_M_writeOn_378 {G : (MS → Int32 → Int32 → Option (MS × Unit)) × (MS → Int32 → Int32 → Int32 → Int32 → Option (MS × Unit)) × (MS → Int32 → Int32 → Int32 → Int32 → Option (MS × Unit))} {v1 : Int32} {v4 : Int32} {v8 : Int32} {v9 : Int32} (h : Kw1c u0 u) (hG0 : ∀ (u : MS) a0 a1, Kw1c u0 u → Kw1E u0 (G.1 u a0 a1)) (hG1 : ∀ (u : MS) a0 a1 a2 a3, Kw1c u0 u → Kw1E u0 (G.2.1 u a0 a1 a2 a3)) (hG2 : ∀ (u : MS) a0 a1 a2 a3, Kw1c u0 u → Kw1E u0 (G.2.2 u a0 a1 a2 a3)) : Kw1E u0 (fb_M_writeOn_378 N G u v1 v4 v8 v9) := by
  unfold fb_M_writeOn_378
  repeat' (first | with_reducible assumption | with_reducible refine Kw1_br ?_ ?_ | with_reducible refine Kw1_bnd ?_ (fun _ _ _ => ?_) | with_reducible refine Kw1_ck ?_ | with_reducible refine Kw1_ltm ?_ (fun _ _ => ?_) | with_reducible refine Kw1_some ?_ | with_reducible refine Kw1_bo (fun _ => ?_) | with_reducible refine Kw1_T ?_ (fun _ _ _ => ?_) | with_reducible refine Kw1_H ?_ (fun _ _ _ => ?_) (fun _ _ => ?_) | with_reducible exact hG0 _ _ _ (by assumption) | with_reducible exact hG1 _ _ _ _ _ (by assumption) | with_reducible exact hG2 _ _ _ _ _ (by assumption) | with_reducible refine Kw1_ltv (fun _ => ?_) | with_reducible refine Kw1_I ?_ (by decide) | with_reducible refine Kw1_A ?_ (by decide) | with_reducible refine Kw1_J ?_ | with_reducible refine Kw1_L ?_)
theorem yw1_fb_M_writeOn_329 {G : (MS → Int32 → Int32 → Option (MS × Unit)) × (MS → Int32 → Int32 → Int32 → Int32 → Option (MS × Unit)) × (MS → Int32 → Int32 → Int32 → Int32 → Option (MS × Unit))} {v1 : Int32} {v4 : Int32} {v8 : Int32} {v9 : Int32} (h : Kw1c u0 u) (hG0 : ∀ (u : MS) a0 a1, Kw1c u0 u → Kw1E u0 (G.1 u a0 a1)) (hG1 : ∀ (u : MS) a0 a1 a2 a3, Kw1c u0 u → Kw1E u0 (G.2.1 u a0 a1 a2 a3)) (hG2 : ∀ (u : MS) a0 a1 a2 a3, Kw1c u0 u → Kw1E u0 (G.2.2 u a0 a1 a2 a3)) : Kw1E u0 (fb_M_writeOn_329 N G u v1 v4 v8 v9) := by
  unfold fb_M_writeOn_329
  repeat' (first | with_reducible assumption | with_reducible refine Kw1_br ?_ ?_ | with_reducible refine Kw1_bnd ?_ (fun _ _ _ => ?_) | with_reducible refine Kw1_ck ?_ | with_reducible refine Kw1_ltm ?_ (fun _ _ => ?_) | with_reducible refine Kw1_some ?_ | with_reducible refine Kw1_bo (fun _ => ?_) | with_reducible refine Kw1_T ?_ (fun _ _ _ => ?_) | with_reducible refine Kw1_H ?_ (fun _ _ _ => ?_) (fun _ _ => ?_) | with_reducible exact yw1_fb_M_writeOn_378 (by assumption) hG0 hG1 hG2 | with_reducible exact yw1_fb_M_writeOn_384 (by assumption) hG0 hG1 hG2 | with_reducible exact yw1_fm_M_cell (by assumption) | with_reducible exact yw1_fm_M_term (by assumption) | with_reducible exact hG0 _ _ _ (by assumption) | with_reducible exact hG1 _ _ _ _ _ (by assumption) | with_reducible exact hG2 _ _ _ _ _ (by assumption) | with_reducible refine Kw1_ltv (fun _ => ?_) | with_reducible refine Kw1_I ?_ (by decide) | with_reducible refine Kw1_A ?_ (by decide) | with_reducible refine Kw1_J ?_ | with_reducible refine Kw1_L ?_)
theorem yw1_fb_M_writeOn_116 {G : (MS → Int32 → Int32 → Option (MS × Unit)) × (MS → Int32 → Int32 → Int32 → Int32 → Option (MS × Unit)) × (MS → Int32 → Int32 → Int32 → Int32 → Option (MS × Unit))} {v1 : Int32} {v4 : Int32} {v8 : Int32} {v9 : Int32} (h : Kw1c u0 u) (hG0 : ∀ (u : MS) a0 a1, Kw1c u0 u → Kw1E u0 (G.1 u a0 a1)) (hG1 : ∀ (u : MS) a0 a1 a2 a3, Kw1c u0 u → Kw1E u0 (G.2.1 u a0 a1 a2 a3)) (hG2 : ∀ (u : MS) a0 a1 a2 a3, Kw1c u0 u → Kw1E u0 (G.2.2 u a0 a1 a2 a3)) : Kw1E u0 (fb_M_writeOn_116 N G u v1 v4 v8 v9) := by
  unfold fb_M_writeOn_116
  repeat' (first | with_reducible assumption | with_reducible refine Kw1_br ?_ ?_ | with_reducible refine Kw1_bnd ?_ (fun _ _ _ => ?_) | with_reducible refine Kw1_ck ?_ | with_reducible refine Kw1_ltm ?_ (fun _ _ => ?_) | with_reducible refine Kw1_some ?_ | with_reducible refine Kw1_bo (fun _ => ?_) | with_reducible refine Kw1_T ?_ (fun _ _ _ => ?_) | with_reducible refine Kw1_H ?_ (fun _ _ _ => ?_) (fun _ _ => ?_) | with_reducible exact yw1_fb_M_writeOn_384 (by assumption) hG0 hG1 hG2 | with_reducible exact yw1_fm_M_sign (by assumption) | with_reducible exact hG0 _ _ _ (by assumption) | with_reducible exact hG1 _ _ _ _ _ (by assumption) | with_reducible exact hG2 _ _ _ _ _ (by assumption) | with_reducible refine Kw1_ltv (fun _ => ?_) | with_reducible refine Kw1_I ?_ (by decide) | with_reducible refine Kw1_A ?_ (by decide) | with_reducible refine Kw1_J ?_ | with_reducible refine Kw1_L ?_)
theorem yw1_fb_M_writeOn_10 {G : (MS → Int32 → Int32 → Option (MS × Unit)) × (MS → Int32 → Int32 → Int32 → Int32 → Option (MS × Unit)) × (MS → Int32 → Int32 → Int32 → Int32 → Option (MS × Unit))} {v1 : Int32} {v4 : Int32} (h : Kw1c u0 u) (hG0 : ∀ (u : MS) a0 a1, Kw1c u0 u → Kw1E u0 (G.1 u a0 a1)) (hG1 : ∀ (u : MS) a0 a1 a2 a3, Kw1c u0 u → Kw1E u0 (G.2.1 u a0 a1 a2 a3)) (hG2 : ∀ (u : MS) a0 a1 a2 a3, Kw1c u0 u → Kw1E u0 (G.2.2 u a0 a1 a2 a3)) : Kw1E u0 (fb_M_writeOn_10 N G u v1 v4) := by
  unfold fb_M_writeOn_10
  repeat' (first | with_reducible assumption | with_reducible refine Kw1_br ?_ ?_ | with_reducible refine Kw1_bnd ?_ (fun _ _ _ => ?_) | with_reducible refine Kw1_ck ?_ | with_reducible refine Kw1_ltm ?_ (fun _ _ => ?_) | with_reducible refine Kw1_some ?_ | with_reducible refine Kw1_bo (fun _ => ?_) | with_reducible refine Kw1_T ?_ (fun _ _ _ => ?_) | with_reducible refine Kw1_H ?_ (fun _ _ _ => ?_) (fun _ _ => ?_) | with_reducible exact yw1_fb_M_writeOn_384 (by assumption) hG0 hG1 hG2 | with_reducible exact yw1_fb_M_writeOn_387 (by assumption) hG0 hG1 hG2 | with_reducible exact yw1_fm_M_restOfList (by assumption) | with_reducible exact yw1_fm_M_valueOf (by assumption) | with_reducible exact yw1_fm_M_digits (by assumption) | with_reducible exact yw1_fm_M_sortOf (by assumption) | with_reducible exact yw1_fm_M_cell (by assumption) | with_reducible exact yw1_fm_M_sign (by assumption) | with_reducible exact yw1_fm_M_term (by assumption) | with_reducible exact hG0 _ _ _ (by assumption) | with_reducible exact hG1 _ _ _ _ _ (by assumption) | with_reducible exact hG2 _ _ _ _ _ (by assumption) | with_reducible refine Kw1_ltv (fun _ => ?_) | with_reducible refine Kw1_I ?_ (by decide) | with_reducible refine Kw1_A ?_ (by decide) | with_reducible refine Kw1_J ?_ | with_reducible refine Kw1_L ?_)
theorem yw1_fb_M_writeOn_0 {G : (MS → Int32 → Int32 → Option (MS × Unit)) × (MS → Int32 → Int32 → Int32 → Int32 → Option (MS × Unit)) × (MS → Int32 → Int32 → Int32 → Int32 → Option (MS × Unit))} {v1 : Int32} {v2 : Int64} (h : Kw1c u0 u) (hG0 : ∀ (u : MS) a0 a1, Kw1c u0 u → Kw1E u0 (G.1 u a0 a1)) (hG1 : ∀ (u : MS) a0 a1 a2 a3, Kw1c u0 u → Kw1E u0 (G.2.1 u a0 a1 a2 a3)) (hG2 : ∀ (u : MS) a0 a1 a2 a3, Kw1c u0 u → Kw1E u0 (G.2.2 u a0 a1 a2 a3)) : Kw1E u0 (fb_M_writeOn_0 N G u v1 v2) := by
  unfold fb_M_writeOn_0
  repeat' (first | with_reducible assumption | with_reducible refine Kw1_br ?_ ?_ | with_reducible refine Kw1_bnd ?_ (fun _ _ _ => ?_) | with_reducible refine Kw1_ck ?_ | with_reducible refine Kw1_ltm ?_ (fun _ _ => ?_) | with_reducible refine Kw1_some ?_ | with_reducible refine Kw1_bo (fun _ => ?_) | with_reducible refine Kw1_T ?_ (fun _ _ _ => ?_) | with_reducible refine Kw1_H ?_ (fun _ _ _ => ?_) (fun _ _ => ?_) | with_reducible exact hG0 _ _ _ (by assumption) | with_reducible exact hG1 _ _ _ _ _ (by assumption) | with_reducible exact hG2 _ _ _ _ _ (by assumption) | with_reducible refine Kw1_ltv (fun _ => ?_) | with_reducible refine Kw1_I ?_ (by decide) | with_reducible refine Kw1_A ?_ (by decide) | with_reducible refine Kw1_J ?_ | with_reducible refine Kw1_L ?_)
theorem yw1_gg_M_writeOn  (n : Nat) : (∀ (u : MS) a0 a1, Kw1c u0 u → Kw1E u0 ((gg_M_writeOn N n).1 u a0 a1)) ∧ (∀ (u : MS) a0 a1 a2 a3, Kw1c u0 u → Kw1E u0 ((gg_M_writeOn N n).2.1 u a0 a1 a2 a3)) ∧ (∀ (u : MS) a0 a1 a2 a3, Kw1c u0 u → Kw1E u0 ((gg_M_writeOn N n).2.2 u a0 a1 a2 a3)) := by
  induction n with
  | zero => exact ⟨fun _ _ _ _ => Kw1_none, fun _ _ _ _ _ _ => Kw1_none, fun _ _ _ _ _ _ => Kw1_none⟩
  | succ n ih => exact ⟨fun _ _ _ h => yw1_fb_M_writeOn_10 (N := N) h ih.1 ih.2.1 ih.2.2, fun _ _ _ _ _ h => yw1_fb_M_writeOn_116 (N := N) h ih.1 ih.2.1 ih.2.2, fun _ _ _ _ _ h => yw1_fb_M_writeOn_329 (N := N) h ih.1 ih.2.1 ih.2.2⟩
theorem yw1_fm_M_writeOn {v1 : Int32} {v2 : Int64} (h : Kw1c u0 u)  : Kw1E u0 (fm_M_writeOn N u v1 v2) := by
  unfold fm_M_writeOn
  exact yw1_fb_M_writeOn_0 h ((yw1_gg_M_writeOn N).1) ((yw1_gg_M_writeOn N).2.1) ((yw1_gg_M_writeOn N).2.2)
theorem yw1_fb_M_write_30 {G : Unit} {t1 : Int32} (h : Kw1c u0 u)  : Kw1E u0 (fb_M_write_30 N G u t1) := by
  unfold fb_M_write_30
  repeat' (first | with_reducible assumption | with_reducible refine Kw1_br ?_ ?_ | with_reducible refine Kw1_bnd ?_ (fun _ _ _ => ?_) | with_reducible refine Kw1_ck ?_ | with_reducible refine Kw1_ltm ?_ (fun _ _ => ?_) | with_reducible refine Kw1_some ?_ | with_reducible refine Kw1_bo (fun _ => ?_) | with_reducible refine Kw1_T ?_ (fun _ _ _ => ?_) | with_reducible refine Kw1_H ?_ (fun _ _ _ => ?_) (fun _ _ => ?_) | with_reducible refine Kw1_ltv (fun _ => ?_) | with_reducible refine Kw1_I ?_ (by decide) | with_reducible refine Kw1_A ?_ (by decide) | with_reducible refine Kw1_J ?_ | with_reducible refine Kw1_L ?_)
theorem yw1_fb_M_write_0 {G : Unit} {v1 : Int32} {v2 : Int64} (h : Kw1c u0 u)  : Kw1E u0 (fb_M_write_0 N G u v1 v2) := by
  unfold fb_M_write_0
  repeat' (first | with_reducible assumption | with_reducible refine Kw1_br ?_ ?_ | with_reducible refine Kw1_bnd ?_ (fun _ _ _ => ?_) | with_reducible refine Kw1_ck ?_ | with_reducible refine Kw1_ltm ?_ (fun _ _ => ?_) | with_reducible refine Kw1_some ?_ | with_reducible refine Kw1_bo (fun _ => ?_) | with_reducible refine Kw1_T ?_ (fun _ _ _ => ?_) | with_reducible refine Kw1_H ?_ (fun _ _ _ => ?_) (fun _ _ => ?_) | with_reducible exact yw1_fb_M_write_30 (by assumption) | with_reducible exact yw1_fm_M_writeOn (by assumption) | with_reducible refine Kw1_ltv (fun _ => ?_) | with_reducible refine Kw1_I ?_ (by decide) | with_reducible refine Kw1_A ?_ (by decide) | with_reducible refine Kw1_J ?_ | with_reducible refine Kw1_L ?_)
theorem yw1_fm_M_write {v1 : Int32} {v2 : Int64} (h : Kw1c u0 u)  : Kw1E u0 (fm_M_write N u v1 v2) := by
  unfold fm_M_write
  exact yw1_fb_M_write_0 h
theorem yw1_fb_M_isProcess_24 {G : Unit} {t0 : Int32} (h : Kw1c u0 u)  : Kw1E u0 (fb_M_isProcess_24 N G u t0) := by
  unfold fb_M_isProcess_24
  repeat' (first | with_reducible assumption | with_reducible refine Kw1_br ?_ ?_ | with_reducible refine Kw1_bnd ?_ (fun _ _ _ => ?_) | with_reducible refine Kw1_ck ?_ | with_reducible refine Kw1_ltm ?_ (fun _ _ => ?_) | with_reducible refine Kw1_some ?_ | with_reducible refine Kw1_bo (fun _ => ?_) | with_reducible refine Kw1_T ?_ (fun _ _ _ => ?_) | with_reducible refine Kw1_H ?_ (fun _ _ _ => ?_) (fun _ _ => ?_) | with_reducible refine Kw1_ltv (fun _ => ?_) | with_reducible refine Kw1_I ?_ (by decide) | with_reducible refine Kw1_A ?_ (by decide) | with_reducible refine Kw1_J ?_ | with_reducible refine Kw1_L ?_)
theorem yw1_fb_M_isProcess_23 {G : Unit} (h : Kw1c u0 u)  : Kw1E u0 (fb_M_isProcess_23 N G u) := by
  unfold fb_M_isProcess_23
  repeat' (first | with_reducible assumption | with_reducible refine Kw1_br ?_ ?_ | with_reducible refine Kw1_bnd ?_ (fun _ _ _ => ?_) | with_reducible refine Kw1_ck ?_ | with_reducible refine Kw1_ltm ?_ (fun _ _ => ?_) | with_reducible refine Kw1_some ?_ | with_reducible refine Kw1_bo (fun _ => ?_) | with_reducible refine Kw1_T ?_ (fun _ _ _ => ?_) | with_reducible refine Kw1_H ?_ (fun _ _ _ => ?_) (fun _ _ => ?_) | with_reducible exact yw1_fb_M_isProcess_24 (by assumption) | with_reducible refine Kw1_ltv (fun _ => ?_) | with_reducible refine Kw1_I ?_ (by decide) | with_reducible refine Kw1_A ?_ (by decide) | with_reducible refine Kw1_J ?_ | with_reducible refine Kw1_L ?_)
theorem yw1_fb_M_isProcess_0 {G : Unit} {v1 : Int32} (h : Kw1c u0 u)  : Kw1E u0 (fb_M_isProcess_0 N G u v1) := by
  unfold fb_M_isProcess_0
  repeat' (first | with_reducible assumption | with_reducible refine Kw1_br ?_ ?_ | with_reducible refine Kw1_bnd ?_ (fun _ _ _ => ?_) | with_reducible refine Kw1_ck ?_ | with_reducible refine Kw1_ltm ?_ (fun _ _ => ?_) | with_reducible refine Kw1_some ?_ | with_reducible refine Kw1_bo (fun _ => ?_) | with_reducible refine Kw1_T ?_ (fun _ _ _ => ?_) | with_reducible refine Kw1_H ?_ (fun _ _ _ => ?_) (fun _ _ => ?_) | with_reducible exact yw1_fb_M_isProcess_23 (by assumption) | with_reducible exact yw1_fb_M_isProcess_24 (by assumption) | with_reducible refine Kw1_ltv (fun _ => ?_) | with_reducible refine Kw1_I ?_ (by decide) | with_reducible refine Kw1_A ?_ (by decide) | with_reducible refine Kw1_J ?_ | with_reducible refine Kw1_L ?_)
theorem yw1_fm_M_isProcess {v1 : Int32} (h : Kw1c u0 u)  : Kw1E u0 (fm_M_isProcess N u v1) := by
  unfold fm_M_isProcess
  exact yw1_fb_M_isProcess_0 h
theorem yw1_fb_M_mayGo_46 {G : Unit} {t0 : Int32} (h : Kw1c u0 u)  : Kw1E u0 (fb_M_mayGo_46 N G u t0) := by
  unfold fb_M_mayGo_46
  repeat' (first | with_reducible assumption | with_reducible refine Kw1_br ?_ ?_ | with_reducible refine Kw1_bnd ?_ (fun _ _ _ => ?_) | with_reducible refine Kw1_ck ?_ | with_reducible refine Kw1_ltm ?_ (fun _ _ => ?_) | with_reducible refine Kw1_some ?_ | with_reducible refine Kw1_bo (fun _ => ?_) | with_reducible refine Kw1_T ?_ (fun _ _ _ => ?_) | with_reducible refine Kw1_H ?_ (fun _ _ _ => ?_) (fun _ _ => ?_) | with_reducible refine Kw1_ltv (fun _ => ?_) | with_reducible refine Kw1_I ?_ (by decide) | with_reducible refine Kw1_A ?_ (by decide) | with_reducible refine Kw1_J ?_ | with_reducible refine Kw1_L ?_)
theorem yw1_fb_M_mayGo_45 {G : Unit} (h : Kw1c u0 u)  : Kw1E u0 (fb_M_mayGo_45 N G u) := by
  unfold fb_M_mayGo_45
  repeat' (first | with_reducible assumption | with_reducible refine Kw1_br ?_ ?_ | with_reducible refine Kw1_bnd ?_ (fun _ _ _ => ?_) | with_reducible refine Kw1_ck ?_ | with_reducible refine Kw1_ltm ?_ (fun _ _ => ?_) | with_reducible refine Kw1_some ?_ | with_reducible refine Kw1_bo (fun _ => ?_) | with_reducible refine Kw1_T ?_ (fun _ _ _ => ?_) | with_reducible refine Kw1_H ?_ (fun _ _ _ => ?_) (fun _ _ => ?_) | with_reducible exact yw1_fb_M_mayGo_46 (by assumption) | with_reducible refine Kw1_ltv (fun _ => ?_) | with_reducible refine Kw1_I ?_ (by decide) | with_reducible refine Kw1_A ?_ (by decide) | with_reducible refine Kw1_J ?_ | with_reducible refine Kw1_L ?_)
theorem yw1_fb_M_mayGo_41 {G : Unit} (h : Kw1c u0 u)  : Kw1E u0 (fb_M_mayGo_41 N G u) := by
  unfold fb_M_mayGo_41
  repeat' (first | with_reducible assumption | with_reducible refine Kw1_br ?_ ?_ | with_reducible refine Kw1_bnd ?_ (fun _ _ _ => ?_) | with_reducible refine Kw1_ck ?_ | with_reducible refine Kw1_ltm ?_ (fun _ _ => ?_) | with_reducible refine Kw1_some ?_ | with_reducible refine Kw1_bo (fun _ => ?_) | with_reducible refine Kw1_T ?_ (fun _ _ _ => ?_) | with_reducible refine Kw1_H ?_ (fun _ _ _ => ?_) (fun _ _ => ?_) | with_reducible exact yw1_fb_M_mayGo_46 (by assumption) | with_reducible refine Kw1_ltv (fun _ => ?_) | with_reducible refine Kw1_I ?_ (by decide) | with_reducible refine Kw1_A ?_ (by decide) | with_reducible refine Kw1_J ?_ | with_reducible refine Kw1_L ?_)
theorem yw1_fb_M_mayGo_0 {G : Unit} {v1 : Int32} (h : Kw1c u0 u)  : Kw1E u0 (fb_M_mayGo_0 N G u v1) := by
  unfold fb_M_mayGo_0
  repeat' (first | with_reducible assumption | with_reducible refine Kw1_br ?_ ?_ | with_reducible refine Kw1_bnd ?_ (fun _ _ _ => ?_) | with_reducible refine Kw1_ck ?_ | with_reducible refine Kw1_ltm ?_ (fun _ _ => ?_) | with_reducible refine Kw1_some ?_ | with_reducible refine Kw1_bo (fun _ => ?_) | with_reducible refine Kw1_T ?_ (fun _ _ _ => ?_) | with_reducible refine Kw1_H ?_ (fun _ _ _ => ?_) (fun _ _ => ?_) | with_reducible exact yw1_fb_M_mayGo_41 (by assumption) | with_reducible exact yw1_fb_M_mayGo_45 (by assumption) | with_reducible refine Kw1_ltv (fun _ => ?_) | with_reducible refine Kw1_I ?_ (by decide) | with_reducible refine Kw1_A ?_ (by decide) | with_reducible refine Kw1_J ?_ | with_reducible refine Kw1_L ?_)
theorem yw1_fm_M_mayGo {v1 : Int32} (h : Kw1c u0 u)  : Kw1E u0 (fm_M_mayGo N u v1) := by
  unfold fm_M_mayGo
  exact yw1_fb_M_mayGo_0 h
theorem yw1_fb_M_count_188 {G : Unit} {t0 : Int32} (h : Kw1c u0 u)  : Kw1E u0 (fb_M_count_188 N G u t0) := by
  unfold fb_M_count_188
  repeat' (first | with_reducible assumption | with_reducible refine Kw1_br ?_ ?_ | with_reducible refine Kw1_bnd ?_ (fun _ _ _ => ?_) | with_reducible refine Kw1_ck ?_ | with_reducible refine Kw1_ltm ?_ (fun _ _ => ?_) | with_reducible refine Kw1_some ?_ | with_reducible refine Kw1_bo (fun _ => ?_) | with_reducible refine Kw1_T ?_ (fun _ _ _ => ?_) | with_reducible refine Kw1_H ?_ (fun _ _ _ => ?_) (fun _ _ => ?_) | with_reducible refine Kw1_ltv (fun _ => ?_) | with_reducible refine Kw1_I ?_ (by decide) | with_reducible refine Kw1_A ?_ (by decide) | with_reducible refine Kw1_J ?_ | with_reducible refine Kw1_L ?_)
theorem yw1_fb_M_count_172 {G : Unit} {t0 : Int32} (h : Kw1c u0 u)  : Kw1E u0 (fb_M_count_172 N G u t0) := by
  unfold fb_M_count_172
  repeat' (first | with_reducible assumption | with_reducible refine Kw1_br ?_ ?_ | with_reducible refine Kw1_bnd ?_ (fun _ _ _ => ?_) | with_reducible refine Kw1_ck ?_ | with_reducible refine Kw1_ltm ?_ (fun _ _ => ?_) | with_reducible refine Kw1_some ?_ | with_reducible refine Kw1_bo (fun _ => ?_) | with_reducible refine Kw1_T ?_ (fun _ _ _ => ?_) | with_reducible refine Kw1_H ?_ (fun _ _ _ => ?_) (fun _ _ => ?_) | with_reducible refine Kw1_ltv (fun _ => ?_) | with_reducible refine Kw1_I ?_ (by decide) | with_reducible refine Kw1_A ?_ (by decide) | with_reducible refine Kw1_J ?_ | with_reducible refine Kw1_L ?_)
theorem yw1_fb_M_count_156 {G : Unit} {t0 : Int32} (h : Kw1c u0 u)  : Kw1E u0 (fb_M_count_156 N G u t0) := by
  unfold fb_M_count_156
  repeat' (first | with_reducible assumption | with_reducible refine Kw1_br ?_ ?_ | with_reducible refine Kw1_bnd ?_ (fun _ _ _ => ?_) | with_reducible refine Kw1_ck ?_ | with_reducible refine Kw1_ltm ?_ (fun _ _ => ?_) | with_reducible refine Kw1_some ?_ | with_reducible refine Kw1_bo (fun _ => ?_) | with_reducible refine Kw1_T ?_ (fun _ _ _ => ?_) | with_reducible refine Kw1_H ?_ (fun _ _ _ => ?_) (fun _ _ => ?_) | with_reducible refine Kw1_ltv (fun _ => ?_) | with_reducible refine Kw1_I ?_ (by decide) | with_reducible refine Kw1_A ?_ (by decide) | with_reducible refine Kw1_J ?_ | with_reducible refine Kw1_L ?_)
theorem yw1_fb_M_count_140 {G : Unit} {t0 : Int32} (h : Kw1c u0 u)  : Kw1E u0 (fb_M_count_140 N G u t0) := by
  unfold fb_M_count_140
  repeat' (first | with_reducible assumption | with_reducible refine Kw1_br ?_ ?_ | with_reducible refine Kw1_bnd ?_ (fun _ _ _ => ?_) | with_reducible refine Kw1_ck ?_ | with_reducible refine Kw1_ltm ?_ (fun _ _ => ?_) | with_reducible refine Kw1_some ?_ | with_reducible refine Kw1_bo (fun _ => ?_) | with_reducible refine Kw1_T ?_ (fun _ _ _ => ?_) | with_reducible refine Kw1_H ?_ (fun _ _ _ => ?_) (fun _ _ => ?_) | with_reducible refine Kw1_ltv (fun _ => ?_) | with_reducible refine Kw1_I ?_ (by decide) | with_reducible refine Kw1_A ?_ (by decide) | with_reducible refine Kw1_J ?_ | with_reducible refine Kw1_L ?_)
theorem yw1_fb_M_count_124 {G : Unit} {t0 : Int32} (h : Kw1c u0 u)  : Kw1E u0 (fb_M_count_124 N G u t0) := by
  unfold fb_M_count_124
  repeat' (first | with_reducible assumption | with_reducible refine Kw1_br ?_ ?_ | with_reducible refine Kw1_bnd ?_ (fun _ _ _ => ?_) | with_reducible refine Kw1_ck ?_ | with_reducible refine Kw1_ltm ?_ (fun _ _ => ?_) | with_reducible refine Kw1_some ?_ | with_reducible refine Kw1_bo (fun _ => ?_) | with_reducible refine Kw1_T ?_ (fun _ _ _ => ?_) | with_reducible refine Kw1_H ?_ (fun _ _ _ => ?_) (fun _ _ => ?_) | with_reducible refine Kw1_ltv (fun _ => ?_) | with_reducible refine Kw1_I ?_ (by decide) | with_reducible refine Kw1_A ?_ (by decide) | with_reducible refine Kw1_J ?_ | with_reducible refine Kw1_L ?_)
theorem yw1_fb_M_count_103 {G : Unit} {t0 : Int32} (h : Kw1c u0 u)  : Kw1E u0 (fb_M_count_103 N G u t0) := by
  unfold fb_M_count_103
  repeat' (first | with_reducible assumption | with_reducible refine Kw1_br ?_ ?_ | with_reducible refine Kw1_bnd ?_ (fun _ _ _ => ?_) | with_reducible refine Kw1_ck ?_ | with_reducible refine Kw1_ltm ?_ (fun _ _ => ?_) | with_reducible refine Kw1_some ?_ | with_reducible refine Kw1_bo (fun _ => ?_) | with_reducible refine Kw1_T ?_ (fun _ _ _ => ?_) | with_reducible refine Kw1_H ?_ (fun _ _ _ => ?_) (fun _ _ => ?_) | with_reducible refine Kw1_ltv (fun _ => ?_) | with_reducible refine Kw1_I ?_ (by decide) | with_reducible refine Kw1_A ?_ (by decide) | with_reducible refine Kw1_J ?_ | with_reducible refine Kw1_L ?_)
theorem yw1_fb_M_count_87 {G : Unit} {t0 : Int32} (h : Kw1c u0 u)  : Kw1E u0 (fb_M_count_87 N G u t0) := by
  unfold fb_M_count_87
  repeat' (first | with_reducible assumption | with_reducible refine Kw1_br ?_ ?_ | with_reducible refine Kw1_bnd ?_ (fun _ _ _ => ?_) | with_reducible refine Kw1_ck ?_ | with_reducible refine Kw1_ltm ?_ (fun _ _ => ?_) | with_reducible refine Kw1_some ?_ | with_reducible refine Kw1_bo (fun _ => ?_) | with_reducible refine Kw1_T ?_ (fun _ _ _ => ?_) | with_reducible refine Kw1_H ?_ (fun _ _ _ => ?_) (fun _ _ => ?_) | with_reducible refine Kw1_ltv (fun _ => ?_) | with_reducible refine Kw1_I ?_ (by decide) | with_reducible refine Kw1_A ?_ (by decide) | with_reducible refine Kw1_J ?_ | with_reducible refine Kw1_L ?_)
theorem yw1_fb_M_count_71 {G : Unit} {t0 : Int32} (h : Kw1c u0 u)  : Kw1E u0 (fb_M_count_71 N G u t0) := by
  unfold fb_M_count_71
  repeat' (first | with_reducible assumption | with_reducible refine Kw1_br ?_ ?_ | with_reducible refine Kw1_bnd ?_ (fun _ _ _ => ?_) | with_reducible refine Kw1_ck ?_ | with_reducible refine Kw1_ltm ?_ (fun _ _ => ?_) | with_reducible refine Kw1_some ?_ | with_reducible refine Kw1_bo (fun _ => ?_) | with_reducible refine Kw1_T ?_ (fun _ _ _ => ?_) | with_reducible refine Kw1_H ?_ (fun _ _ _ => ?_) (fun _ _ => ?_) | with_reducible refine Kw1_ltv (fun _ => ?_) | with_reducible refine Kw1_I ?_ (by decide) | with_reducible refine Kw1_A ?_ (by decide) | with_reducible refine Kw1_J ?_ | with_reducible refine Kw1_L ?_)
theorem yw1_fb_M_count_0 {G : Unit} {v1 : Int32} (h : Kw1c u0 u)  : Kw1E u0 (fb_M_count_0 N G u v1) := by
  unfold fb_M_count_0
  repeat' (first | with_reducible assumption | with_reducible refine Kw1_br ?_ ?_ | with_reducible refine Kw1_bnd ?_ (fun _ _ _ => ?_) | with_reducible refine Kw1_ck ?_ | with_reducible refine Kw1_ltm ?_ (fun _ _ => ?_) | with_reducible refine Kw1_some ?_ | with_reducible refine Kw1_bo (fun _ => ?_) | with_reducible refine Kw1_T ?_ (fun _ _ _ => ?_) | with_reducible refine Kw1_H ?_ (fun _ _ _ => ?_) (fun _ _ => ?_) | with_reducible exact yw1_fb_M_count_103 (by assumption) | with_reducible exact yw1_fb_M_count_124 (by assumption) | with_reducible exact yw1_fb_M_count_140 (by assumption) | with_reducible exact yw1_fb_M_count_156 (by assumption) | with_reducible exact yw1_fb_M_count_172 (by assumption) | with_reducible exact yw1_fb_M_count_188 (by assumption) | with_reducible exact yw1_fb_M_count_71 (by assumption) | with_reducible exact yw1_fb_M_count_87 (by assumption) | with_reducible refine Kw1_ltv (fun _ => ?_) | with_reducible refine Kw1_I ?_ (by decide) | with_reducible refine Kw1_A ?_ (by decide) | with_reducible refine Kw1_J ?_ | with_reducible refine Kw1_L ?_)
theorem yw1_fm_M_count {v1 : Int32} (h : Kw1c u0 u)  : Kw1E u0 (fm_M_count N u v1) := by
  unfold fm_M_count
  exact yw1_fb_M_count_0 h
theorem yw1_fb_M_process_355 {G : (MS → Int32 → Int32 → Int32 → Int32 → Int32 → Option (MS × Int32))} {t0 : Int32} (h : Kw1c u0 u) (hG0 : ∀ (u : MS) a0 a1 a2 a3 a4, Kw1c u0 u → Kw1E u0 (G u a0 a1 a2 a3 a4)) : Kw1E u0 (fb_M_process_355 N G u t0) := by
  unfold fb_M_process_355
  repeat' (first | with_reducible assumption | with_reducible refine Kw1_br ?_ ?_ | with_reducible refine Kw1_bnd ?_ (fun _ _ _ => ?_) | with_reducible refine Kw1_ck ?_ | with_reducible refine Kw1_ltm ?_ (fun _ _ => ?_) | with_reducible refine Kw1_some ?_ | with_reducible refine Kw1_bo (fun _ => ?_) | with_reducible refine Kw1_T ?_ (fun _ _ _ => ?_) | with_reducible refine Kw1_H ?_ (fun _ _ _ => ?_) (fun _ _ => ?_) | with_reducible exact hG0 _ _ _ _ _ _ (by assumption) | with_reducible refine Kw1_ltv (fun _ => ?_) | with_reducible refine Kw1_I ?_ (by decide) | with_reducible refine Kw1_A ?_ (by decide) | with_reducible refine Kw1_J ?_ | with_reducible refine Kw1_L ?_)
theorem yw1_fb_M_process_339 {G : (MS → Int32 → Int32 → Int32 → Int32 → Int32 → Option (MS × Int32))} {t0 : Int32} (h : Kw1c u0 u) (hG0 : ∀ (u : MS) a0 a1 a2 a3 a4, Kw1c u0 u → Kw1E u0 (G u a0 a1 a2 a3 a4)) : Kw1E u0 (fb_M_process_339 N G u t0) := by
  unfold fb_M_process_339
  repeat' (first | with_reducible assumption | with_reducible refine Kw1_br ?_ ?_ | with_reducible refine Kw1_bnd ?_ (fun _ _ _ => ?_) | with_reducible refine Kw1_ck ?_ | with_reducible refine Kw1_ltm ?_ (fun _ _ => ?_) | with_reducible refine Kw1_some ?_ | with_reducible refine Kw1_bo (fun _ => ?_) | with_reducible refine Kw1_T ?_ (fun _ _ _ => ?_) | with_reducible refine Kw1_H ?_ (fun _ _ _ => ?_) (fun _ _ => ?_) | with_reducible exact hG0 _ _ _ _ _ _ (by assumption) | with_reducible refine Kw1_ltv (fun _ => ?_) | with_reducible refine Kw1_I ?_ (by decide) | with_reducible refine Kw1_A ?_ (by decide) | with_reducible refine Kw1_J ?_ | with_reducible refine Kw1_L ?_)
theorem yw1_fb_M_process_309 {G : (MS → Int32 → Int32 → Int32 → Int32 → Int32 → Option (MS × Int32))} (h : Kw1c u0 u) (hG0 : ∀ (u : MS) a0 a1 a2 a3 a4, Kw1c u0 u → Kw1E u0 (G u a0 a1 a2 a3 a4)) : Kw1E u0 (fb_M_process_309 N G u) := by
  unfold fb_M_process_309
  repeat' (first | with_reducible assumption | with_reducible refine Kw1_br ?_ ?_ | with_reducible refine Kw1_bnd ?_ (fun _ _ _ => ?_) | with_reducible refine Kw1_ck ?_ | with_reducible refine Kw1_ltm ?_ (fun _ _ => ?_) | with_reducible refine Kw1_some ?_ | with_reducible refine Kw1_bo (fun _ => ?_) | with_reducible refine Kw1_T ?_ (fun _ _ _ => ?_) | with_reducible refine Kw1_H ?_ (fun _ _ _ => ?_) (fun _ _ => ?_) | with_reducible exact yw1_fb_M_process_339 (by assumption) hG0 | with_reducible exact hG0 _ _ _ _ _ _ (by assumption) | with_reducible refine Kw1_ltv (fun _ => ?_) | with_reducible refine Kw1_I ?_ (by decide) | with_reducible refine Kw1_A ?_ (by decide) | with_reducible refine Kw1_J ?_ | with_reducible refine Kw1_L ?_)
theorem yw1_fb_M_process_285 {G : (MS → Int32 → Int32 → Int32 → Int32 → Int32 → Option (MS × Int32))} {t0 : Int32} (h : Kw1c u0 u) (hG0 : ∀ (u : MS) a0 a1 a2 a3 a4, Kw1c u0 u → Kw1E u0 (G u a0 a1 a2 a3 a4)) : Kw1E u0 (fb_M_process_285 N G u t0) := by
  unfold fb_M_process_285
  repeat' (first | with_reducible assumption | with_reducible refine Kw1_br ?_ ?_ | with_reducible refine Kw1_bnd ?_ (fun _ _ _ => ?_) | with_reducible refine Kw1_ck ?_ | with_reducible refine Kw1_ltm ?_ (fun _ _ => ?_) | with_reducible refine Kw1_some ?_ | with_reducible refine Kw1_bo (fun _ => ?_) | with_reducible refine Kw1_T ?_ (fun _ _ _ => ?_) | with_reducible refine Kw1_H ?_ (fun _ _ _ => ?_) (fun _ _ => ?_) | with_reducible exact hG0 _ _ _ _ _ _ (by assumption) | with_reducible refine Kw1_ltv (fun _ => ?_) | with_reducible refine Kw1_I ?_ (by decide) | with_reducible refine Kw1_A ?_ (by decide) | with_reducible refine Kw1_J ?_ | with_reducible refine Kw1_L ?_)
theorem yw1_fb_M_process_175 {G : (MS → Int32 → Int32 → Int32 → Int32 → Int32 → Option (MS × Int32))} {v1 : Int32} {v2 : Int32} {v4 : Int32} {v6 : Int32} {t0 : Int32} (h : Kw1c u0 u) (hG0 : ∀ (u : MS) a0 a1 a2 a3 a4, Kw1c u0 u → Kw1E u0 (G u a0 a1 a2 a3 a4)) : Kw1E u0 (fb_M_process_175 N G u v1 v2 v4 v6 t0) := by
  unfold fb_M_process_175
  repeat' (first | with_reducible assumption | with_reducible refine Kw1_br ?_ ?_ | with_reducible refine Kw1_bnd ?_ (fun _ _ _ => ?_) | with_reducible refine Kw1_ck ?_ | with_reducible refine Kw1_ltm ?_ (fun _ _ => ?_) | with_reducible refine Kw1_some ?_ | with_reducible refine Kw1_bo (fun _ => ?_) | with_reducible refine Kw1_T ?_ (fun _ _ _ => ?_) | with_reducible refine Kw1_H ?_ (fun _ _ _ => ?_) (fun _ _ => ?_) | with_reducible exact hG0 _ _ _ _ _ _ (by assumption) | with_reducible refine Kw1_ltv (fun _ => ?_) | with_reducible refine Kw1_I ?_ (by decide) | with_reducible refine Kw1_A ?_ (by decide) | with_reducible refine Kw1_J ?_ | with_reducible refine Kw1_L ?_)
theorem yw1_fb_M_process_146 {G : (MS → Int32 → Int32 → Int32 → Int32 → Int32 → Option (MS × Int32))} {v1 : Int32} {v2 : Int32} {v4 : Int32} {v5 : Int32} {v6 : Int32} (h : Kw1c u0 u) (hG0 : ∀ (u : MS) a0 a1 a2 a3 a4, Kw1c u0 u → Kw1E u0 (G u a0 a1 a2 a3 a4)) : Kw1E u0 (fb_M_process_146 N G u v1 v2 v4 v5 v6) := by
  unfold fb_M_process_146
  repeat' (first | with_reducible assumption | with_reducible refine Kw1_br ?_ ?_ | with_reducible refine Kw1_bnd ?_ (fun _ _ _ => ?_) | with_reducible refine Kw1_ck ?_ | with_reducible refine Kw1_ltm ?_ (fun _ _ => ?_) | with_reducible refine Kw1_some ?_ | with_reducible refine Kw1_bo (fun _ => ?_) | with_reducible refine Kw1_T ?_ (fun _ _ _ => ?_) | with_reducible refine Kw1_H ?_ (fun _ _ _ => ?_) (fun _ _ => ?_) | with_reducible exact yw1_fb_M_process_175 (by assumption) hG0 | with_reducible exact yw1_fb_M_process_285 (by assumption) hG0 | with_reducible exact yw1_fb_M_process_309 (by assumption) hG0 | with_reducible exact yw1_fb_M_process_339 (by assumption) hG0 | with_reducible exact yw1_fb_M_process_355 (by assumption) hG0 | with_reducible exact hG0 _ _ _ _ _ _ (by assumption) | with_reducible refine Kw1_ltv (fun _ => ?_) | with_reducible refine Kw1_I ?_ (by decide) | with_reducible refine Kw1_A ?_ (by decide) | with_reducible refine Kw1_J ?_ | with_reducible refine Kw1_L ?_)
theorem yw1_fb_M_process_139 {G : (MS → Int32 → Int32 → Int32 → Int32 → Int32 → Option (MS × Int32))} {t0 : Int32} (h : Kw1c u0 u) (hG0 : ∀ (u : MS) a0 a1 a2 a3 a4, Kw1c u0 u → Kw1E u0 (G u a0 a1 a2 a3 a4)) : Kw1E u0 (fb_M_process_139 N G u t0) := by
  unfold fb_M_process_139
  repeat' (first | with_reducible assumption | with_reducible refine Kw1_br ?_ ?_ | with_reducible refine Kw1_bnd ?_ (fun _ _ _ => ?_) | with_reducible refine Kw1_ck ?_ | with_reducible refine Kw1_ltm ?_ (fun _ _ => ?_) | with_reducible refine Kw1_some ?_ | with_reducible refine Kw1_bo (fun _ => ?_) | with_reducible refine Kw1_T ?_ (fun _ _ _ => ?_) | with_reducible refine Kw1_H ?_ (fun _ _ _ => ?_) (fun _ _ => ?_) | with_reducible exact hG0 _ _ _ _ _ _ (by assumption) | with_reducible refine Kw1_ltv (fun _ => ?_) | with_reducible refine Kw1_I ?_ (by decide) | with_reducible refine Kw1_A ?_ (by decide) | with_reducible refine Kw1_J ?_ | with_reducible refine Kw1_L ?_)
theorem yw1_fb_M_process_134 {G : (MS → Int32 → Int32 → Int32 → Int32 → Int32 → Option (MS × Int32))} (h : Kw1c u0 u) (hG0 : ∀ (u : MS) a0 a1 a2 a3 a4, Kw1c u0 u → Kw1E u0 (G u a0 a1 a2 a3 a4)) : Kw1E u0 (fb_M_process_134 N G u) := by
  unfold fb_M_process_134
  repeat' (first | with_reducible assumption | with_reducible refine Kw1_br ?_ ?_ | with_reducible refine Kw1_bnd ?_ (fun _ _ _ => ?_) | with_reducible refine Kw1_ck ?_ | with_reducible refine Kw1_ltm ?_ (fun _ _ => ?_) | with_reducible refine Kw1_some ?_ | with_reducible refine Kw1_bo (fun _ => ?_) | with_reducible refine Kw1_T ?_ (fun _ _ _ => ?_) | with_reducible refine Kw1_H ?_ (fun _ _ _ => ?_) (fun _ _ => ?_) | with_reducible exact yw1_fb_M_process_139 (by assumption) hG0 | with_reducible exact hG0 _ _ _ _ _ _ (by assumption) | with_reducible refine Kw1_ltv (fun _ => ?_) | with_reducible refine Kw1_I ?_ (by decide) | with_reducible refine Kw1_A ?_ (by decide) | with_reducible refine Kw1_J ?_ | with_reducible refine Kw1_L ?_)
theorem yw1_fb_M_process_92 {G : (MS → Int32 → Int32 → Int32 → Int32 → Int32 → Option (MS × Int32))} {t0 : Int32} (h : Kw1c u0 u) (hG0 : ∀ (u : MS) a0 a1 a2 a3 a4, Kw1c u0 u → Kw1E u0 (G u a0 a1 a2 a3 a4)) : Kw1E u0 (fb_M_process_92 N G u t0) := by
  unfold fb_M_process_92
  repeat' (first | with_reducible assumption | with_reducible refine Kw1_br ?_ ?_ | with_reducible refine Kw1_bnd ?_ (fun _ _ _ => ?_) | with_reducible refine Kw1_ck ?_ | with_reducible refine Kw1_ltm ?_ (fun _ _ => ?_) | with_reducible refine Kw1_some ?_ | with_reducible refine Kw1_bo (fun _ => ?_) | with_reducible refine Kw1_T ?_ (fun _ _ _ => ?_) | with_reducible refine Kw1_H ?_ (fun _ _ _ => ?_) (fun _ _ => ?_) | with_reducible exact hG0 _ _ _ _ _ _ (by assumption) | with_reducible refine Kw1_ltv (fun _ => ?_) | with_reducible refine Kw1_I ?_ (by decide) | with_reducible refine Kw1_A ?_ (by decide) | with_reducible refine Kw1_J ?_ | with_reducible refine Kw1_L ?_)
theorem yw1_fb_M_process_56 {G : (MS → Int32 → Int32 → Int32 → Int32 → Int32 → Option (MS × Int32))} {v1 : Int32} {v2 : Int32} {v3 : Int32} {t0 : Int32} (h : Kw1c u0 u) (hG0 : ∀ (u : MS) a0 a1 a2 a3 a4, Kw1c u0 u → Kw1E u0 (G u a0 a1 a2 a3 a4)) : Kw1E u0 (fb_M_process_56 N G u v1 v2 v3 t0) := by
  unfold fb_M_process_56
  repeat' (first | with_reducible assumption | with_reducible refine Kw1_br ?_ ?_ | with_reducible refine Kw1_bnd ?_ (fun _ _ _ => ?_) | with_reducible refine Kw1_ck ?_ | with_reducible refine Kw1_ltm ?_ (fun _ _ => ?_) | with_reducible refine Kw1_some ?_ | with_reducible refine Kw1_bo (fun _ => ?_) | with_reducible refine Kw1_T ?_ (fun _ _ _ => ?_) | with_reducible refine Kw1_H ?_ (fun _ _ _ => ?_) (fun _ _ => ?_) | with_reducible exact yw1_fb_M_process_134 (by assumption) hG0 | with_reducible exact yw1_fb_M_process_139 (by assumption) hG0 | with_reducible exact yw1_fb_M_process_92 (by assumption) hG0 | with_reducible exact yw1_fm_M_mayGo (by assumption) | with_reducible exact hG0 _ _ _ _ _ _ (by assumption) | with_reducible refine Kw1_ltv (fun _ => ?_) | with_reducible refine Kw1_I ?_ (by decide) | with_reducible refine Kw1_A ?_ (by decide) | with_reducible refine Kw1_J ?_ | with_reducible refine Kw1_L ?_)
theorem yw1_fb_M_process_40 {G : (MS → Int32 → Int32 → Int32 → Int32 → Int32 → Option (MS × Int32))} {v1 : Int32} {v2 : Int32} {t0 : Int32} (h : Kw1c u0 u) (hG0 : ∀ (u : MS) a0 a1 a2 a3 a4, Kw1c u0 u → Kw1E u0 (G u a0 a1 a2 a3 a4)) : Kw1E u0 (fb_M_process_40 N G u v1 v2 t0) := by
  unfold fb_M_process_40
  repeat' (first | with_reducible assumption | with_reducible refine Kw1_br ?_ ?_ | with_reducible refine Kw1_bnd ?_ (fun _ _ _ => ?_) | with_reducible refine Kw1_ck ?_ | with_reducible refine Kw1_ltm ?_ (fun _ _ => ?_) | with_reducible refine Kw1_some ?_ | with_reducible refine Kw1_bo (fun _ => ?_) | with_reducible refine Kw1_T ?_ (fun _ _ _ => ?_) | with_reducible refine Kw1_H ?_ (fun _ _ _ => ?_) (fun _ _ => ?_) | with_reducible exact yw1_fb_M_process_56 (by assumption) hG0 | with_reducible exact hG0 _ _ _ _ _ _ (by assumption) | with_reducible refine Kw1_ltv (fun _ => ?_) | with_reducible refine Kw1_I ?_ (by decide) | with_reducible refine Kw1_A ?_ (by decide) | with_reducible refine Kw1_J ?_ | with_reducible refine Kw1_L ?_)
theorem yw1_fb_M_process_23 {G : (MS → Int32 → Int32 → Int32 → Int32 → Int32 → Option (MS × Int32))} (h : Kw1c u0 u) (hG0 : ∀ (u : MS) a0 a1 a2 a3 a4, Kw1c u0 u → Kw1E u0 (G u a0 a1 a2 a3 a4)) : Kw1E u0 (fb_M_process_23 N G u) := by
  unfold fb_M_process_23
  repeat' (first | with_reducible assumption | with_reducible refine Kw1_br ?_ ?_ | with_reducible refine Kw1_bnd ?_ (fun _ _ _ => ?_) | with_reducible refine Kw1_ck ?_ | with_reducible refine Kw1_ltm ?_ (fun _ _ => ?_) | with_reducible refine Kw1_some ?_ | with_reducible refine Kw1_bo (fun _ => ?_) | with_reducible refine Kw1_T ?_ (fun _ _ _ => ?_) | with_reducible refine Kw1_H ?_ (fun _ _ _ => ?_) (fun _ _ => ?_) | with_reducible exact hG0 _ _ _ _ _ _ (by assumption) | with_reducible refine Kw1_ltv (fun _ => ?_) | with_reducible refine Kw1_I ?_ (by decide) | with_reducible refine Kw1_A ?_ (by decide) | with_reducible refine Kw1_J ?_ | with_reducible refine Kw1_L ?_)
theorem yw1_fb_M_process_0 {G : (MS → Int32 → Int32 → Int32 → Int32 → Int32 → Option (MS × Int32))} {v1 : Int32} {v2 : Int32} (h : Kw1c u0 u) (hG0 : ∀ (u : MS) a0 a1 a2 a3 a4, Kw1c u0 u → Kw1E u0 (G u a0 a1 a2 a3 a4)) : Kw1E u0 (fb_M_process_0 N G u v1 v2) := by
  unfold fb_M_process_0
  repeat' (first | with_reducible assumption | with_reducible refine Kw1_br ?_ ?_ | with_reducible refine Kw1_bnd ?_ (fun _ _ _ => ?_) | with_reducible refine Kw1_ck ?_ | with_reducible refine Kw1_ltm ?_ (fun _ _ => ?_) | with_reducible refine Kw1_some ?_ | with_reducible refine Kw1_bo (fun _ => ?_) | with_reducible refine Kw1_T ?_ (fun _ _ _ => ?_) | with_reducible refine Kw1_H ?_ (fun _ _ _ => ?_) (fun _ _ => ?_) | with_reducible exact yw1_fb_M_process_23 (by assumption) hG0 | with_reducible exact yw1_fb_M_process_40 (by assumption) hG0 | with_reducible exact yw1_fm_M_isProcess (by assumption) | with_reducible exact hG0 _ _ _ _ _ _ (by assumption) | with_reducible refine Kw1_ltv (fun _ => ?_) | with_reducible refine Kw1_I ?_ (by decide) | with_reducible refine Kw1_A ?_ (by decide) | with_reducible refine Kw1_J ?_ | with_reducible refine Kw1_L ?_)
theorem yw1_gg_M_process  (n : Nat) : (∀ (u : MS) a0 a1 a2 a3 a4, Kw1c u0 u → Kw1E u0 ((gg_M_process N n) u a0 a1 a2 a3 a4)) := by
  induction n with
  | zero => exact fun _ _ _ _ _ _ _ => Kw1_none
  | succ n ih => exact fun _ _ _ _ _ _ h => yw1_fb_M_process_146 (N := N) h ih
theorem yw1_fm_M_process {v1 : Int32} {v2 : Int32} (h : Kw1c u0 u)  : Kw1E u0 (fm_M_process N u v1 v2) := by
  unfold fm_M_process
  exact yw1_fb_M_process_0 h ((yw1_gg_M_process N))
theorem yw1_fb_M_frame1_195 {G : Unit} {t0 : Int32} (h : Kw1c u0 u)  : Kw1E u0 (fb_M_frame1_195 N G u t0) := by
  unfold fb_M_frame1_195
  repeat' (first | with_reducible assumption | with_reducible refine Kw1_br ?_ ?_ | with_reducible refine Kw1_bnd ?_ (fun _ _ _ => ?_) | with_reducible refine Kw1_ck ?_ | with_reducible refine Kw1_ltm ?_ (fun _ _ => ?_) | with_reducible refine Kw1_some ?_ | with_reducible refine Kw1_bo (fun _ => ?_) | with_reducible refine Kw1_T ?_ (fun _ _ _ => ?_) | with_reducible refine Kw1_H ?_ (fun _ _ _ => ?_) (fun _ _ => ?_) | with_reducible refine Kw1_ltv (fun _ => ?_) | with_reducible refine Kw1_I ?_ (by decide) | with_reducible refine Kw1_A ?_ (by decide) | with_reducible refine Kw1_J ?_ | with_reducible refine Kw1_L ?_)
theorem yw1_fb_M_frame1_165 {G : Unit} {v3 : Int32} {v5 : Int32} {v6 : Int32} {t0 : Int32} (h : Kw1c u0 u)  : Kw1E u0 (fb_M_frame1_165 N G u v3 v5 v6 t0) := by
  unfold fb_M_frame1_165
  repeat' (first | with_reducible assumption | with_reducible refine Kw1_br ?_ ?_ | with_reducible refine Kw1_bnd ?_ (fun _ _ _ => ?_) | with_reducible refine Kw1_ck ?_ | with_reducible refine Kw1_ltm ?_ (fun _ _ => ?_) | with_reducible refine Kw1_some ?_ | with_reducible refine Kw1_bo (fun _ => ?_) | with_reducible refine Kw1_T ?_ (fun _ _ _ => ?_) | with_reducible refine Kw1_H ?_ (fun _ _ _ => ?_) (fun _ _ => ?_) | with_reducible exact yw1_fb_M_frame1_195 (by assumption) | with_reducible refine Kw1_ltv (fun _ => ?_) | with_reducible refine Kw1_I ?_ (by decide) | with_reducible refine Kw1_A ?_ (by decide) | with_reducible refine Kw1_J ?_ | with_reducible refine Kw1_L ?_)
theorem yw1_fb_M_frame1_141 {G : Unit} {v1 : Int32} {v2 : Int32} {v3 : Int32} {v5 : Int32} {t0 : Int32} (h : Kw1c u0 u)  : Kw1E u0 (fb_M_frame1_141 N G u v1 v2 v3 v5 t0) := by
  unfold fb_M_frame1_141
  repeat' (first | with_reducible assumption | with_reducible refine Kw1_br ?_ ?_ | with_reducible refine Kw1_bnd ?_ (fun _ _ _ => ?_) | with_reducible refine Kw1_ck ?_ | with_reducible refine Kw1_ltm ?_ (fun _ _ => ?_) | with_reducible refine Kw1_some ?_ | with_reducible refine Kw1_bo (fun _ => ?_) | with_reducible refine Kw1_T ?_ (fun _ _ _ => ?_) | with_reducible refine Kw1_H ?_ (fun _ _ _ => ?_) (fun _ _ => ?_) | with_reducible exact yw1_fb_M_frame1_165 (by assumption) | with_reducible refine Kw1_ltv (fun _ => ?_) | with_reducible refine Kw1_I ?_ (by decide) | with_reducible refine Kw1_A ?_ (by decide) | with_reducible refine Kw1_J ?_ | with_reducible refine Kw1_L ?_)
theorem yw1_fb_M_frame1_118 {G : Unit} {t0 : Int32} (h : Kw1c u0 u)  : Kw1E u0 (fb_M_frame1_118 N G u t0) := by
  unfold fb_M_frame1_118
  repeat' (first | with_reducible assumption | with_reducible refine Kw1_br ?_ ?_ | with_reducible refine Kw1_bnd ?_ (fun _ _ _ => ?_) | with_reducible refine Kw1_ck ?_ | with_reducible refine Kw1_ltm ?_ (fun _ _ => ?_) | with_reducible refine Kw1_some ?_ | with_reducible refine Kw1_bo (fun _ => ?_) | with_reducible refine Kw1_T ?_ (fun _ _ _ => ?_) | with_reducible refine Kw1_H ?_ (fun _ _ _ => ?_) (fun _ _ => ?_) | with_reducible refine Kw1_ltv (fun _ => ?_) | with_reducible refine Kw1_I ?_ (by decide) | with_reducible refine Kw1_A ?_ (by decide) | with_reducible refine Kw1_J ?_ | with_reducible refine Kw1_L ?_)
theorem yw1_fb_M_frame1_46 {G : Unit} (h : Kw1c u0 u)  : Kw1E u0 (fb_M_frame1_46 N G u) := by
  unfold fb_M_frame1_46
  repeat' (first | with_reducible assumption | with_reducible refine Kw1_br ?_ ?_ | with_reducible refine Kw1_bnd ?_ (fun _ _ _ => ?_) | with_reducible refine Kw1_ck ?_ | with_reducible refine Kw1_ltm ?_ (fun _ _ => ?_) | with_reducible refine Kw1_some ?_ | with_reducible refine Kw1_bo (fun _ => ?_) | with_reducible refine Kw1_T ?_ (fun _ _ _ => ?_) | with_reducible refine Kw1_H ?_ (fun _ _ _ => ?_) (fun _ _ => ?_) | with_reducible refine Kw1_ltv (fun _ => ?_) | with_reducible refine Kw1_I ?_ (by decide) | with_reducible refine Kw1_A ?_ (by decide) | with_reducible refine Kw1_J ?_ | with_reducible refine Kw1_L ?_)
theorem yw1_fb_M_frame1_0 {G : Unit} {v1 : Int32} {v2 : Int32} {v3 : Int32} (h : Kw1c u0 u)  : Kw1E u0 (fb_M_frame1_0 N G u v1 v2 v3) := by
  unfold fb_M_frame1_0
  repeat' (first | with_reducible assumption | with_reducible refine Kw1_br ?_ ?_ | with_reducible refine Kw1_bnd ?_ (fun _ _ _ => ?_) | with_reducible refine Kw1_ck ?_ | with_reducible refine Kw1_ltm ?_ (fun _ _ => ?_) | with_reducible refine Kw1_some ?_ | with_reducible refine Kw1_bo (fun _ => ?_) | with_reducible refine Kw1_T ?_ (fun _ _ _ => ?_) | with_reducible refine Kw1_H ?_ (fun _ _ _ => ?_) (fun _ _ => ?_) | with_reducible exact yw1_fb_M_frame1_118 (by assumption) | with_reducible exact yw1_fb_M_frame1_141 (by assumption) | with_reducible exact yw1_fb_M_frame1_46 (by assumption) | with_reducible exact yw1_fm_M_isProcess (by assumption) | with_reducible refine Kw1_ltv (fun _ => ?_) | with_reducible refine Kw1_I ?_ (by decide) | with_reducible refine Kw1_A ?_ (by decide) | with_reducible refine Kw1_J ?_ | with_reducible refine Kw1_L ?_)
theorem yw1_fm_M_frame1 {v1 : Int32} {v2 : Int32} {v3 : Int32} (h : Kw1c u0 u)  : Kw1E u0 (fm_M_frame1 N u v1 v2 v3) := by
  unfold fm_M_frame1
  exact yw1_fb_M_frame1_0 h
theorem yw1_fb_M_link_42 {G : Unit} {t0 : Int32} (h : Kw1c u0 u)  : Kw1E u0 (fb_M_link_42 N G u t0) := by
  unfold fb_M_link_42
  repeat' (first | with_reducible assumption | with_reducible refine Kw1_br ?_ ?_ | with_reducible refine Kw1_bnd ?_ (fun _ _ _ => ?_) | with_reducible refine Kw1_ck ?_ | with_reducible refine Kw1_ltm ?_ (fun _ _ => ?_) | with_reducible refine Kw1_some ?_ | with_reducible refine Kw1_bo (fun _ => ?_) | with_reducible refine Kw1_T ?_ (fun _ _ _ => ?_) | with_reducible refine Kw1_H ?_ (fun _ _ _ => ?_) (fun _ _ => ?_) | with_reducible refine Kw1_ltv (fun _ => ?_) | with_reducible refine Kw1_I ?_ (by decide) | with_reducible refine Kw1_A ?_ (by decide) | with_reducible refine Kw1_J ?_ | with_reducible refine Kw1_L ?_)
theorem yw1_fb_M_link_27 {G : Unit} (h : Kw1c u0 u)  : Kw1E u0 (fb_M_link_27 N G u) := by
  unfold fb_M_link_27
  repeat' (first | with_reducible assumption | with_reducible refine Kw1_br ?_ ?_ | with_reducible refine Kw1_bnd ?_ (fun _ _ _ => ?_) | with_reducible refine Kw1_ck ?_ | with_reducible refine Kw1_ltm ?_ (fun _ _ => ?_) | with_reducible refine Kw1_some ?_ | with_reducible refine Kw1_bo (fun _ => ?_) | with_reducible refine Kw1_T ?_ (fun _ _ _ => ?_) | with_reducible refine Kw1_H ?_ (fun _ _ _ => ?_) (fun _ _ => ?_) | with_reducible exact yw1_fb_M_link_42 (by assumption) | with_reducible refine Kw1_ltv (fun _ => ?_) | with_reducible refine Kw1_I ?_ (by decide) | with_reducible refine Kw1_A ?_ (by decide) | with_reducible refine Kw1_J ?_ | with_reducible refine Kw1_L ?_)
theorem yw1_fb_M_link_0 {G : Unit} {v1 : Int32} {v2 : Int32} (h : Kw1c u0 u)  : Kw1E u0 (fb_M_link_0 N G u v1 v2) := by
  unfold fb_M_link_0
  repeat' (first | with_reducible assumption | with_reducible refine Kw1_br ?_ ?_ | with_reducible refine Kw1_bnd ?_ (fun _ _ _ => ?_) | with_reducible refine Kw1_ck ?_ | with_reducible refine Kw1_ltm ?_ (fun _ _ => ?_) | with_reducible refine Kw1_some ?_ | with_reducible refine Kw1_bo (fun _ => ?_) | with_reducible refine Kw1_T ?_ (fun _ _ _ => ?_) | with_reducible refine Kw1_H ?_ (fun _ _ _ => ?_) (fun _ _ => ?_) | with_reducible exact yw1_fm_M_isProcess (by assumption) | with_reducible exact yw1_fb_M_link_27 (by assumption) | with_reducible exact yw1_fb_M_link_42 (by assumption) | with_reducible refine Kw1_ltv (fun _ => ?_) | with_reducible refine Kw1_I ?_ (by decide) | with_reducible refine Kw1_A ?_ (by decide) | with_reducible refine Kw1_J ?_ | with_reducible refine Kw1_L ?_)
theorem yw1_fm_M_link {v1 : Int32} {v2 : Int32} (h : Kw1c u0 u)  : Kw1E u0 (fm_M_link N u v1 v2) := by
  unfold fm_M_link
  exact yw1_fb_M_link_0 h
theorem yw1_fb_M_show_263 {G : (MS → Int32 → Int32 → Option (MS × Int32)) × (MS → Int32 → Option (MS × Int32))} {v6 : Int32} (h : Kw1c u0 u) (hG0 : ∀ (u : MS) a0 a1, Kw1c u0 u → Kw1E u0 (G.1 u a0 a1)) (hG1 : ∀ (u : MS) a0, Kw1c u0 u → Kw1E u0 (G.2 u a0)) : Kw1E u0 (fb_M_show_263 N G u v6) := by
  unfold fb_M_show_263
  repeat' (first | with_reducible assumption | with_reducible refine Kw1_br ?_ ?_ | with_reducible refine Kw1_bnd ?_ (fun _ _ _ => ?_) | with_reducible refine Kw1_ck ?_ | with_reducible refine Kw1_ltm ?_ (fun _ _ => ?_) | with_reducible refine Kw1_some ?_ | with_reducible refine Kw1_bo (fun _ => ?_) | with_reducible refine Kw1_T ?_ (fun _ _ _ => ?_) | with_reducible refine Kw1_H ?_ (fun _ _ _ => ?_) (fun _ _ => ?_) | with_reducible exact hG0 _ _ _ (by assumption) | with_reducible exact hG1 _ _ (by assumption) | with_reducible refine Kw1_ltv (fun _ => ?_) | with_reducible refine Kw1_I ?_ (by decide) | with_reducible refine Kw1_A ?_ (by decide) | with_reducible refine Kw1_J ?_ | with_reducible refine Kw1_L ?_)
theorem yw1_fb_M_show_257 {G : (MS → Int32 → Int32 → Option (MS × Int32)) × (MS → Int32 → Option (MS × Int32))} {t1 : Int32} {t2 : Int64} (h : Kw1c u0 u) (hG0 : ∀ (u : MS) a0 a1, Kw1c u0 u → Kw1E u0 (G.1 u a0 a1)) (hG1 : ∀ (u : MS) a0, Kw1c u0 u → Kw1E u0 (G.2 u a0)) : Kw1E u0 (fb_M_show_257 N G u t1 t2) := by
  unfold fb_M_show_257
  repeat' (first | with_reducible assumption | with_reducible refine Kw1_br ?_ ?_ | with_reducible refine Kw1_bnd ?_ (fun _ _ _ => ?_) | with_reducible refine Kw1_ck ?_ | with_reducible refine Kw1_ltm ?_ (fun _ _ => ?_) | with_reducible refine Kw1_some ?_ | with_reducible refine Kw1_bo (fun _ => ?_) | with_reducible refine Kw1_T ?_ (fun _ _ _ => ?_) | with_reducible refine Kw1_H ?_ (fun _ _ _ => ?_) (fun _ _ => ?_) | with_reducible exact yw1_fm_M_write (by assumption) | with_reducible exact hG0 _ _ _ (by assumption) | with_reducible exact hG1 _ _ (by assumption) | with_reducible refine Kw1_ltv (fun _ => ?_) | with_reducible refine Kw1_I ?_ (by decide) | with_reducible refine Kw1_A ?_ (by decide) | with_reducible refine Kw1_J ?_ | with_reducible refine Kw1_L ?_)
theorem yw1_fb_M_show_179 {G : (MS → Int32 → Int32 → Option (MS × Int32)) × (MS → Int32 → Option (MS × Int32))} {v1 : Int32} {v2 : Int32} {v3 : Int32} {v4 : Int32} {t0 : Int32} (h : Kw1c u0 u) (hG0 : ∀ (u : MS) a0 a1, Kw1c u0 u → Kw1E u0 (G.1 u a0 a1)) (hG1 : ∀ (u : MS) a0, Kw1c u0 u → Kw1E u0 (G.2 u a0)) : Kw1E u0 (fb_M_show_179 N G u v1 v2 v3 v4 t0) := by
  unfold fb_M_show_179
  repeat' (first | with_reducible assumption | with_reducible refine Kw1_br ?_ ?_ | with_reducible refine Kw1_bnd ?_ (fun _ _ _ => ?_) | with_reducible refine Kw1_ck ?_ | with_reducible refine Kw1_ltm ?_ (fun _ _ => ?_) | with_reducible refine Kw1_some ?_ | with_reducible refine Kw1_bo (fun _ => ?_) | with_reducible refine Kw1_T ?_ (fun _ _ _ => ?_) | with_reducible refine Kw1_H ?_ (fun _ _ _ => ?_) (fun _ _ => ?_) | with_reducible exact yw1_fb_M_show_257 (by assumption) hG0 hG1 | with_reducible exact hG0 _ _ _ (by assumption) | with_reducible exact hG1 _ _ (by assumption) | with_reducible refine Kw1_ltv (fun _ => ?_) | with_reducible refine Kw1_I ?_ (by decide) | with_reducible refine Kw1_A ?_ (by decide) | with_reducible refine Kw1_J ?_ | with_reducible refine Kw1_L ?_)
theorem yw1_fb_M_show_113 {G : (MS → Int32 → Int32 → Option (MS × Int32)) × (MS → Int32 → Option (MS × Int32))} (h : Kw1c u0 u) (hG0 : ∀ (u : MS) a0 a1, Kw1c u0 u → Kw1E u0 (G.1 u a0 a1)) (hG1 : ∀ (u : MS) a0, Kw1c u0 u → Kw1E u0 (G.2 u a0)) : Kw1E u0 (fb_M_show_113 N G u) := by
  unfold fb_M_show_113
  repeat' (first | with_reducible assumption | with_reducible refine Kw1_br ?_ ?_ | with_reducible refine Kw1_bnd ?_ (fun _ _ _ => ?_) | with_reducible refine Kw1_ck ?_ | with_reducible refine Kw1_ltm ?_ (fun _ _ => ?_) | with_reducible refine Kw1_some ?_ | with_reducible refine Kw1_bo (fun _ => ?_) | with_reducible refine Kw1_T ?_ (fun _ _ _ => ?_) | with_reducible refine Kw1_H ?_ (fun _ _ _ => ?_) (fun _ _ => ?_) | with_reducible exact hG0 _ _ _ (by assumption) | with_reducible exact hG1 _ _ (by assumption) | with_reducible refine Kw1_ltv (fun _ => ?_) | with_reducible refine Kw1_I ?_ (by decide) | with_reducible refine Kw1_A ?_ (by decide) | with_reducible refine Kw1_J ?_ | with_reducible refine Kw1_L ?_)
theorem yw1_fb_M_show_43 {G : (MS → Int32 → Int32 → Option (MS × Int32)) × (MS → Int32 → Option (MS × Int32))} {v1 : Int32} {v4 : Int32} (h : Kw1c u0 u) (hG0 : ∀ (u : MS) a0 a1, Kw1c u0 u → Kw1E u0 (G.1 u a0 a1)) (hG1 : ∀ (u : MS) a0, Kw1c u0 u → Kw1E u0 (G.2 u a0)) : Kw1E u0 (fb_M_show_43 N G u v1 v4) := by
  unfold fb_M_show_43
  repeat' (first | with_reducible assumption | with_reducible refine Kw1_br ?_ ?_ | with_reducible refine Kw1_bnd ?_ (fun _ _ _ => ?_) | with_reducible refine Kw1_ck ?_ | with_reducible refine Kw1_ltm ?_ (fun _ _ => ?_) | with_reducible refine Kw1_some ?_ | with_reducible refine Kw1_bo (fun _ => ?_) | with_reducible refine Kw1_T ?_ (fun _ _ _ => ?_) | with_reducible refine Kw1_H ?_ (fun _ _ _ => ?_) (fun _ _ => ?_) | with_reducible exact hG0 _ _ _ (by assumption) | with_reducible exact hG1 _ _ (by assumption) | with_reducible refine Kw1_ltv (fun _ => ?_) | with_reducible refine Kw1_I ?_ (by decide) | with_reducible refine Kw1_A ?_ (by decide) | with_reducible refine Kw1_J ?_ | with_reducible refine Kw1_L ?_)
theorem yw1_fb_M_show_38 {G : (MS → Int32 → Int32 → Option (MS × Int32)) × (MS → Int32 → Option (MS × Int32))} (h : Kw1c u0 u) (hG0 : ∀ (u : MS) a0 a1, Kw1c u0 u → Kw1E u0 (G.1 u a0 a1)) (hG1 : ∀ (u : MS) a0, Kw1c u0 u → Kw1E u0 (G.2 u a0)) : Kw1E u0 (fb_M_show_38 N G u) := by
  unfold fb_M_show_38
  repeat' (first | with_reducible assumption | with_reducible refine Kw1_br ?_ ?_ | with_reducible refine Kw1_bnd ?_ (fun _ _ _ => ?_) | with_reducible refine Kw1_ck ?_ | with_reducible refine Kw1_ltm ?_ (fun _ _ => ?_) | with_reducible refine Kw1_some ?_ | with_reducible refine Kw1_bo (fun _ => ?_) | with_reducible refine Kw1_T ?_ (fun _ _ _ => ?_) | with_reducible refine Kw1_H ?_ (fun _ _ _ => ?_) (fun _ _ => ?_) | with_reducible exact hG0 _ _ _ (by assumption) | with_reducible exact hG1 _ _ (by assumption) | with_reducible refine Kw1_ltv (fun _ => ?_) | with_reducible refine Kw1_I ?_ (by decide) | with_reducible refine Kw1_A ?_ (by decide) | with_reducible refine Kw1_J ?_ | with_reducible refine Kw1_L ?_)
theorem yw1_fb_M_show_17 {G : (MS → Int32 → Int32 → Option (MS × Int32)) × (MS → Int32 → Option (MS × Int32))} (h : Kw1c u0 u) (hG0 : ∀ (u : MS) a0 a1, Kw1c u0 u → Kw1E u0 (G.1 u a0 a1)) (hG1 : ∀ (u : MS) a0, Kw1c u0 u → Kw1E u0 (G.2 u a0)) : Kw1E u0 (fb_M_show_17 N G u) := by
  unfold fb_M_show_17
  repeat' (first | with_reducible assumption | with_reducible refine Kw1_br ?_ ?_ | with_reducible refine Kw1_bnd ?_ (fun _ _ _ => ?_) | with_reducible refine Kw1_ck ?_ | with_reducible refine Kw1_ltm ?_ (fun _ _ => ?_) | with_reducible refine Kw1_some ?_ | with_reducible refine Kw1_bo (fun _ => ?_) | with_reducible refine Kw1_T ?_ (fun _ _ _ => ?_) | with_reducible refine Kw1_H ?_ (fun _ _ _ => ?_) (fun _ _ => ?_) | with_reducible exact hG0 _ _ _ (by assumption) | with_reducible exact hG1 _ _ (by assumption) | with_reducible refine Kw1_ltv (fun _ => ?_) | with_reducible refine Kw1_I ?_ (by decide) | with_reducible refine Kw1_A ?_ (by decide) | with_reducible refine Kw1_J ?_ | with_reducible refine Kw1_L ?_)
theorem yw1_fb_M_show_0 {G : (MS → Int32 → Int32 → Option (MS × Int32)) × (MS → Int32 → Option (MS × Int32))} {v1 : Int32} {v2 : Int32} {v3 : Int32} (h : Kw1c u0 u) (hG0 : ∀ (u : MS) a0 a1, Kw1c u0 u → Kw1E u0 (G.1 u a0 a1)) (hG1 : ∀ (u : MS) a0, Kw1c u0 u → Kw1E u0 (G.2 u a0)) : Kw1E u0 (fb_M_show_0 N G u v1 v2 v3) := by
  unfold fb_M_show_0
  repeat' (first | with_reducible assumption | with_reducible refine Kw1_br ?_ ?_ | with_reducible refine Kw1_bnd ?_ (fun _ _ _ => ?_) | with_reducible refine Kw1_ck ?_ | with_reducible refine Kw1_ltm ?_ (fun _ _ => ?_) | with_reducible refine Kw1_some ?_ | with_reducible refine Kw1_bo (fun _ => ?_) | with_reducible refine Kw1_T ?_ (fun _ _ _ => ?_) | with_reducible refine Kw1_H ?_ (fun _ _ _ => ?_) (fun _ _ => ?_) | with_reducible exact yw1_fb_M_show_113 (by assumption) hG0 hG1 | with_reducible exact yw1_fb_M_show_179 (by assumption) hG0 hG1 | with_reducible exact yw1_fb_M_show_17 (by assumption) hG0 hG1 | with_reducible exact yw1_fb_M_show_38 (by assumption) hG0 hG1 | with_reducible exact yw1_fm_M_isProcess (by assumption) | with_reducible exact hG0 _ _ _ (by assumption) | with_reducible exact hG1 _ _ (by assumption) | with_reducible refine Kw1_ltv (fun _ => ?_) | with_reducible refine Kw1_I ?_ (by decide) | with_reducible refine Kw1_A ?_ (by decide) | with_reducible refine Kw1_J ?_ | with_reducible refine Kw1_L ?_)
theorem yw1_gg_M_show  (n : Nat) : (∀ (u : MS) a0 a1, Kw1c u0 u → Kw1E u0 ((gg_M_show N n).1 u a0 a1)) ∧ (∀ (u : MS) a0, Kw1c u0 u → Kw1E u0 ((gg_M_show N n).2 u a0)) := by
  induction n with
  | zero => exact ⟨fun _ _ _ _ => Kw1_none, fun _ _ _ => Kw1_none⟩
  | succ n ih => exact ⟨fun _ _ _ h => yw1_fb_M_show_43 (N := N) h ih.1 ih.2, fun _ _ h => yw1_fb_M_show_263 (N := N) h ih.1 ih.2⟩
theorem yw1_fm_M_show {v1 : Int32} {v2 : Int32} {v3 : Int32} (h : Kw1c u0 u)  : Kw1E u0 (fm_M_show N u v1 v2 v3) := by
  unfold fm_M_show
  exact yw1_fb_M_show_0 h ((yw1_gg_M_show N).1) ((yw1_gg_M_show N).2)
theorem yw1_fb_M_shown_27 {G : Unit} {t0 : Int32} (h : Kw1c u0 u)  : Kw1E u0 (fb_M_shown_27 N G u t0) := by
  unfold fb_M_shown_27
  repeat' (first | with_reducible assumption | with_reducible refine Kw1_br ?_ ?_ | with_reducible refine Kw1_bnd ?_ (fun _ _ _ => ?_) | with_reducible refine Kw1_ck ?_ | with_reducible refine Kw1_ltm ?_ (fun _ _ => ?_) | with_reducible refine Kw1_some ?_ | with_reducible refine Kw1_bo (fun _ => ?_) | with_reducible refine Kw1_T ?_ (fun _ _ _ => ?_) | with_reducible refine Kw1_H ?_ (fun _ _ _ => ?_) (fun _ _ => ?_) | with_reducible refine Kw1_ltv (fun _ => ?_) | with_reducible refine Kw1_I ?_ (by decide) | with_reducible refine Kw1_A ?_ (by decide) | with_reducible refine Kw1_J ?_ | with_reducible refine Kw1_L ?_)
theorem yw1_fb_M_shown_17 {G : Unit} (h : Kw1c u0 u)  : Kw1E u0 (fb_M_shown_17 N G u) := by
  unfold fb_M_shown_17
  repeat' (first | with_reducible assumption | with_reducible refine Kw1_br ?_ ?_ | with_reducible refine Kw1_bnd ?_ (fun _ _ _ => ?_) | with_reducible refine Kw1_ck ?_ | with_reducible refine Kw1_ltm ?_ (fun _ _ => ?_) | with_reducible refine Kw1_some ?_ | with_reducible refine Kw1_bo (fun _ => ?_) | with_reducible refine Kw1_T ?_ (fun _ _ _ => ?_) | with_reducible refine Kw1_H ?_ (fun _ _ _ => ?_) (fun _ _ => ?_) | with_reducible exact yw1_fb_M_shown_27 (by assumption) | with_reducible refine Kw1_ltv (fun _ => ?_) | with_reducible refine Kw1_I ?_ (by decide) | with_reducible refine Kw1_A ?_ (by decide) | with_reducible refine Kw1_J ?_ | with_reducible refine Kw1_L ?_)
theorem yw1_fb_M_shown_0 {G : Unit} {v1 : Int32} (h : Kw1c u0 u)  : Kw1E u0 (fb_M_shown_0 N G u v1) := by
  unfold fb_M_shown_0
  repeat' (first | with_reducible assumption | with_reducible refine Kw1_br ?_ ?_ | with_reducible refine Kw1_bnd ?_ (fun _ _ _ => ?_) | with_reducible refine Kw1_ck ?_ | with_reducible refine Kw1_ltm ?_ (fun _ _ => ?_) | with_reducible refine Kw1_some ?_ | with_reducible refine Kw1_bo (fun _ => ?_) | with_reducible refine Kw1_T ?_ (fun _ _ _ => ?_) | with_reducible refine Kw1_H ?_ (fun _ _ _ => ?_) (fun _ _ => ?_) | with_reducible exact yw1_fb_M_shown_17 (by assumption) | with_reducible exact yw1_fb_M_shown_27 (by assumption) | with_reducible refine Kw1_ltv (fun _ => ?_) | with_reducible refine Kw1_I ?_ (by decide) | with_reducible refine Kw1_A ?_ (by decide) | with_reducible refine Kw1_J ?_ | with_reducible refine Kw1_L ?_)
theorem yw1_fm_M_shown {v1 : Int32} (h : Kw1c u0 u)  : Kw1E u0 (fm_M_shown N u v1) := by
  unfold fm_M_shown
  exact yw1_fb_M_shown_0 h
theorem yw1_fb_M_printed_53 {G : Unit} {t0 : Int32} (h : Kw1c u0 u)  : Kw1E u0 (fb_M_printed_53 N G u t0) := by
  unfold fb_M_printed_53
  repeat' (first | with_reducible assumption | with_reducible refine Kw1_br ?_ ?_ | with_reducible refine Kw1_bnd ?_ (fun _ _ _ => ?_) | with_reducible refine Kw1_ck ?_ | with_reducible refine Kw1_ltm ?_ (fun _ _ => ?_) | with_reducible refine Kw1_some ?_ | with_reducible refine Kw1_bo (fun _ => ?_) | with_reducible refine Kw1_T ?_ (fun _ _ _ => ?_) | with_reducible refine Kw1_H ?_ (fun _ _ _ => ?_) (fun _ _ => ?_) | with_reducible refine Kw1_ltv (fun _ => ?_) | with_reducible refine Kw1_I ?_ (by decide) | with_reducible refine Kw1_A ?_ (by decide) | with_reducible refine Kw1_J ?_ | with_reducible refine Kw1_L ?_)
theorem yw1_fb_M_printed_38 {G : Unit} (h : Kw1c u0 u)  : Kw1E u0 (fb_M_printed_38 N G u) := by
  unfold fb_M_printed_38
  repeat' (first | with_reducible assumption | with_reducible refine Kw1_br ?_ ?_ | with_reducible refine Kw1_bnd ?_ (fun _ _ _ => ?_) | with_reducible refine Kw1_ck ?_ | with_reducible refine Kw1_ltm ?_ (fun _ _ => ?_) | with_reducible refine Kw1_some ?_ | with_reducible refine Kw1_bo (fun _ => ?_) | with_reducible refine Kw1_T ?_ (fun _ _ _ => ?_) | with_reducible refine Kw1_H ?_ (fun _ _ _ => ?_) (fun _ _ => ?_) | with_reducible exact yw1_fb_M_printed_53 (by assumption) | with_reducible refine Kw1_ltv (fun _ => ?_) | with_reducible refine Kw1_I ?_ (by decide) | with_reducible refine Kw1_A ?_ (by decide) | with_reducible refine Kw1_J ?_ | with_reducible refine Kw1_L ?_)
theorem yw1_fb_M_printed_0 {G : Unit} {v1 : Int32} {v2 : Int32} (h : Kw1c u0 u)  : Kw1E u0 (fb_M_printed_0 N G u v1 v2) := by
  unfold fb_M_printed_0
  repeat' (first | with_reducible assumption | with_reducible refine Kw1_br ?_ ?_ | with_reducible refine Kw1_bnd ?_ (fun _ _ _ => ?_) | with_reducible refine Kw1_ck ?_ | with_reducible refine Kw1_ltm ?_ (fun _ _ => ?_) | with_reducible refine Kw1_some ?_ | with_reducible refine Kw1_bo (fun _ => ?_) | with_reducible refine Kw1_T ?_ (fun _ _ _ => ?_) | with_reducible refine Kw1_H ?_ (fun _ _ _ => ?_) (fun _ _ => ?_) | with_reducible exact yw1_fb_M_printed_38 (by assumption) | with_reducible exact yw1_fb_M_printed_53 (by assumption) | with_reducible refine Kw1_ltv (fun _ => ?_) | with_reducible refine Kw1_I ?_ (by decide) | with_reducible refine Kw1_A ?_ (by decide) | with_reducible refine Kw1_J ?_ | with_reducible refine Kw1_L ?_)
theorem yw1_fm_M_printed {v1 : Int32} {v2 : Int32} (h : Kw1c u0 u)  : Kw1E u0 (fm_M_printed N u v1 v2) := by
  unfold fm_M_printed
  exact yw1_fb_M_printed_0 h
end
end
section
set_option maxRecDepth 100000
def Kf1c (u w : MS) : Prop := (∀ k, k ∉ [9, 81, 865, 866, 1964] → w.1 k = u.1 k) ∧ (∀ k, k ∉ [5, 56] → w.2.2.1 k = u.2.2.1 k) ∧ (∀ k, k ≠ 45 → w.2.2.2 k = u.2.2.2 k) ∧ w.2.1 = u.2.1
def Kf1E {α : Type} (u : MS) (o : Option (MS × α)) : Prop := ∀ w r, o = some (w, r) → Kf1c u w
section
variable {α β : Type} {u0 u w : MS} {k : Nat}
theorem Kf1_none : Kf1E u0 (none : Option (MS × α)) := fun _ _ e => by cases e
theorem Kf1_some {r : α} (h : Kf1c u0 w) : Kf1E u0 (some (w, r)) := fun _ _ e => by injection e with e; injection e with e1 _; exact e1 ▸ h
theorem Kf1_br {b : Bool} {p q : Option (MS × α)} (h1 : Kf1E u0 p) (h2 : Kf1E u0 q) : Kf1E u0 (br b p q) := by cases b <;> assumption
theorem Kf1_ck {b : Bool} {p : Option (MS × α)} (h1 : Kf1E u0 p) : Kf1E u0 (ck b p) := by
  cases b
  · exact Kf1_none
  · exact h1
theorem Kf1_bo {o : Option β} {f : β → Option (MS × α)} (h : ∀ j, Kf1E u0 (f j)) : Kf1E u0 (bo o f) := by
  cases o with
  | none => exact Kf1_none
  | some j => exact h j
theorem Kf1_bnd {o : Option (MS × β)} {f : MS → β → Option (MS × α)} (h1 : Kf1E u0 o) (h2 : ∀ w r, Kf1c u0 w → Kf1E u0 (f w r)) : Kf1E u0 (bnd o f) := by
  cases o with
  | none => exact Kf1_none
  | some x => exact h2 x.1 x.2 (h1 x.1 x.2 rfl)
theorem Kf1_T {o : Option (MS × (β ⊕ Nat))} {f : MS → β → Option (MS × (α ⊕ Nat))} (h1 : Kf1E u0 o) (h2 : ∀ w r, Kf1c u0 w → Kf1E u0 (f w r)) : Kf1E u0 (bTm o f) := by
  cases o with
  | none => exact Kf1_none
  | some x =>
    obtain ⟨x, z⟩ := x
    cases z with
    | inl v => exact h2 x v (h1 x _ rfl)
    | inr k => exact Kf1_some (h1 x _ rfl)
theorem Kf1_H {o : Option (MS × (β ⊕ Nat))} {f : MS → β → Option (MS × α)} {g : MS → Option (MS × α)} (h1 : Kf1E u0 o) (h2 : ∀ w r, Kf1c u0 w → Kf1E u0 (f w r)) (h3 : ∀ w, Kf1c u0 w → Kf1E u0 (g w)) : Kf1E u0 (bHm o f g) := by
  cases o with
  | none => exact Kf1_none
  | some x =>
    obtain ⟨x, z⟩ := x
    cases z with
    | inl v => exact h2 x v (h1 x _ rfl)
    | inr k =>
      show Kf1E u0 (if k = 3 then g x else none)
      split
      · exact h3 x (h1 x _ rfl)
      · exact Kf1_none
theorem Kf1_ltm {x : MS} {f : MS → Option (MS × α)} (h1 : Kf1c u0 x) (h2 : ∀ w, Kf1c u0 w → Kf1E u0 (f w)) : Kf1E u0 (lt x f) := h2 x h1
theorem Kf1_ltv {x : β} {f : β → Option (MS × α)} (h2 : ∀ y, Kf1E u0 (f y)) : Kf1E u0 (lt x f) := h2 x
theorem Kf1_I {v : Int32} (h : Kf1c u0 u) (hk : k ∈ [9, 81, 865, 866, 1964]) : Kf1c u0 (upI u k v) := ⟨fun j hj => (upI_ne (fun e => hj (by rw [e]; exact hk))).trans (h.1 j hj), h.2⟩
theorem Kf1_L {v : Int64} (h : False) : Kf1c u0 (upL u k v) := h.elim
theorem Kf1_J {v : Nat → Int64} (h : Kf1c u0 u) : Kf1c u0 (upJ u 45 v) := ⟨h.1, h.2.1, fun j hj => (if_neg hj).trans (h.2.2.1 j hj), h.2.2.2⟩
theorem Kf1_A {v : Nat → Int32} (h : Kf1c u0 u) (hk : k ∈ [5, 56]) : Kf1c u0 (upA u k v) := ⟨h.1, fun j hj => (upA_no (fun e => hj (by rw [e]; exact hk))).trans (h.2.1 j hj), h.2.2⟩
theorem Kf1_rf : Kf1c u u := ⟨fun _ _ => rfl, fun _ _ => rfl, fun _ _ => rfl, rfl⟩
end
section
variable {u0 u : MS} {N : Nat}
theorem yf1_hb_To_append_46 {G : (MS → Int32 → Int32 → Option (MS × Unit))} (h : Kf1c u0 u) (hG0 : ∀ (u : MS) a0 a1, Kf1c u0 u → Kf1E u0 (G u a0 a1)) : Kf1E u0 (hb_To_append_46 N G u) := by
  unfold hb_To_append_46
  repeat' (first | with_reducible assumption | with_reducible refine Kf1_br ?_ ?_ | with_reducible refine Kf1_bnd ?_ (fun _ _ _ => ?_) | with_reducible refine Kf1_ck ?_ | with_reducible refine Kf1_ltm ?_ (fun _ _ => ?_) | with_reducible refine Kf1_some ?_ | with_reducible refine Kf1_bo (fun _ => ?_) | with_reducible refine Kf1_T ?_ (fun _ _ _ => ?_) | with_reducible refine Kf1_H ?_ (fun _ _ _ => ?_) (fun _ _ => ?_) | with_reducible exact hG0 _ _ _ (by assumption) | with_reducible refine Kf1_ltv (fun _ => ?_) | with_reducible refine Kf1_I ?_ (by decide) | with_reducible refine Kf1_A ?_ (by decide) | with_reducible refine Kf1_J ?_ | with_reducible refine Kf1_L ?_)
theorem yf1_hb_To_append_3 {G : (MS → Int32 → Int32 → Option (MS × Unit))} {v1 : Int32} {v2 : Int32} (h : Kf1c u0 u) (hG0 : ∀ (u : MS) a0 a1, Kf1c u0 u → Kf1E u0 (G u a0 a1)) : Kf1E u0 (hb_To_append_3 N G u v1 v2) := by
  unfold hb_To_append_3
  repeat' (first | with_reducible assumption | with_reducible refine Kf1_br ?_ ?_ | with_reducible refine Kf1_bnd ?_ (fun _ _ _ => ?_) | with_reducible refine Kf1_ck ?_ | with_reducible refine Kf1_ltm ?_ (fun _ _ => ?_) | with_reducible refine Kf1_some ?_ | with_reducible refine Kf1_bo (fun _ => ?_) | with_reducible refine Kf1_T ?_ (fun _ _ _ => ?_) | with_reducible refine Kf1_H ?_ (fun _ _ _ => ?_) (fun _ _ => ?_) | with_reducible exact yf1_hb_To_append_46 (by assumption) hG0 | with_reducible exact hG0 _ _ _ (by assumption) | with_reducible refine Kf1_ltv (fun _ => ?_) | with_reducible refine Kf1_I ?_ (by decide) | with_reducible refine Kf1_A ?_ (by decide) | with_reducible refine Kf1_J ?_ | with_reducible refine Kf1_L ?_)
theorem yf1_hb_To_append_0 {G : (MS → Int32 → Int32 → Option (MS × Unit))} {v1 : Int32} (h : Kf1c u0 u) (hG0 : ∀ (u : MS) a0 a1, Kf1c u0 u → Kf1E u0 (G u a0 a1)) : Kf1E u0 (hb_To_append_0 N G u v1) := by
  unfold hb_To_append_0
  repeat' (first | with_reducible assumption | with_reducible refine Kf1_br ?_ ?_ | with_reducible refine Kf1_bnd ?_ (fun _ _ _ => ?_) | with_reducible refine Kf1_ck ?_ | with_reducible refine Kf1_ltm ?_ (fun _ _ => ?_) | with_reducible refine Kf1_some ?_ | with_reducible refine Kf1_bo (fun _ => ?_) | with_reducible refine Kf1_T ?_ (fun _ _ _ => ?_) | with_reducible refine Kf1_H ?_ (fun _ _ _ => ?_) (fun _ _ => ?_) | with_reducible exact hG0 _ _ _ (by assumption) | with_reducible refine Kf1_ltv (fun _ => ?_) | with_reducible refine Kf1_I ?_ (by decide) | with_reducible refine Kf1_A ?_ (by decide) | with_reducible refine Kf1_J ?_ | with_reducible refine Kf1_L ?_)
theorem yf1_hg_To_append  (n : Nat) : (∀ (u : MS) a0 a1, Kf1c u0 u → Kf1E u0 ((hg_To_append N n) u a0 a1)) := by
  induction n with
  | zero => exact fun _ _ _ _ => Kf1_none
  | succ n ih => exact fun _ _ _ h => yf1_hb_To_append_3 (N := N) h ih
theorem yf1_hm_To_append {v1 : Int32} (h : Kf1c u0 u)  : Kf1E u0 (hm_To_append N u v1) := by
  unfold hm_To_append
  exact yf1_hb_To_append_0 h ((yf1_hg_To_append N))
theorem yf1_hb_H_feed_0 {G : Unit} {v1 : Int32} {v2 : Int32} {v3 : Int32} {v4 : Int32} {v5 : Int32} (h : Kf1c u0 u)  : Kf1E u0 (hb_H_feed_0 N G u v1 v2 v3 v4 v5) := by
  unfold hb_H_feed_0
  repeat' (first | with_reducible assumption | with_reducible refine Kf1_br ?_ ?_ | with_reducible refine Kf1_bnd ?_ (fun _ _ _ => ?_) | with_reducible refine Kf1_ck ?_ | with_reducible refine Kf1_ltm ?_ (fun _ _ => ?_) | with_reducible refine Kf1_some ?_ | with_reducible refine Kf1_bo (fun _ => ?_) | with_reducible refine Kf1_T ?_ (fun _ _ _ => ?_) | with_reducible refine Kf1_H ?_ (fun _ _ _ => ?_) (fun _ _ => ?_) | with_reducible exact yf1_hm_To_append (by assumption) | with_reducible refine Kf1_ltv (fun _ => ?_) | with_reducible refine Kf1_I ?_ (by decide) | with_reducible refine Kf1_A ?_ (by decide) | with_reducible refine Kf1_J ?_ | with_reducible refine Kf1_L ?_)
theorem yf1_hm_H_feed {v1 : Int32} {v2 : Int32} {v3 : Int32} {v4 : Int32} {v5 : Int32} (h : Kf1c u0 u)  : Kf1E u0 (hm_H_feed N u v1 v2 v3 v4 v5) := by
  unfold hm_H_feed
  exact yf1_hb_H_feed_0 h
theorem yf1_hb_H_back_15 {G : Unit} (h : Kf1c u0 u)  : Kf1E u0 (hb_H_back_15 N G u) := by
  unfold hb_H_back_15
  repeat' (first | with_reducible assumption | with_reducible refine Kf1_br ?_ ?_ | with_reducible refine Kf1_bnd ?_ (fun _ _ _ => ?_) | with_reducible refine Kf1_ck ?_ | with_reducible refine Kf1_ltm ?_ (fun _ _ => ?_) | with_reducible refine Kf1_some ?_ | with_reducible refine Kf1_bo (fun _ => ?_) | with_reducible refine Kf1_T ?_ (fun _ _ _ => ?_) | with_reducible refine Kf1_H ?_ (fun _ _ _ => ?_) (fun _ _ => ?_) | with_reducible refine Kf1_ltv (fun _ => ?_) | with_reducible refine Kf1_I ?_ (by decide) | with_reducible refine Kf1_A ?_ (by decide) | with_reducible refine Kf1_J ?_ | with_reducible refine Kf1_L ?_)
theorem yf1_hb_H_back_0 {G : Unit} {v1 : Int32} (h : Kf1c u0 u)  : Kf1E u0 (hb_H_back_0 N G u v1) := by
  unfold hb_H_back_0
  repeat' (first | with_reducible assumption | with_reducible refine Kf1_br ?_ ?_ | with_reducible refine Kf1_bnd ?_ (fun _ _ _ => ?_) | with_reducible refine Kf1_ck ?_ | with_reducible refine Kf1_ltm ?_ (fun _ _ => ?_) | with_reducible refine Kf1_some ?_ | with_reducible refine Kf1_bo (fun _ => ?_) | with_reducible refine Kf1_T ?_ (fun _ _ _ => ?_) | with_reducible refine Kf1_H ?_ (fun _ _ _ => ?_) (fun _ _ => ?_) | with_reducible exact yf1_hb_H_back_15 (by assumption) | with_reducible refine Kf1_ltv (fun _ => ?_) | with_reducible refine Kf1_I ?_ (by decide) | with_reducible refine Kf1_A ?_ (by decide) | with_reducible refine Kf1_J ?_ | with_reducible refine Kf1_L ?_)
theorem yf1_hm_H_back {v1 : Int32} (h : Kf1c u0 u)  : Kf1E u0 (hm_H_back N u v1) := by
  unfold hm_H_back
  exact yf1_hb_H_back_0 h
end
end
section
set_option maxRecDepth 100000
section
variable {u0 u w m : MS} {N : Nat}
theorem Kf1_r (h : Kf1c u0 u) (e : Kr1c u w) : Kf1c u0 w := by
  have e : w = u := e
  rw [e]; exact h
theorem text_fx {v1 : Nat} {v2 : Int64} (h : Kf1c u0 u) : Kf1E u0 (hm_Te_text N u v1 v2 56 0) := by
  intro w r e
  unfold hm_Te_text hb_Te_text_0 at e
  simp only [lt_e] at e
  have hc : Kx1c u (upJ (upI (upI (upI u 1964 (Int32.ofNat 56)) 865 0) 866 0) 45 (vp_updL ((upI (upI (upI u 1964 (Int32.ofNat 56)) 865 0) 866 0).2.2.2 45) (0 : Int32).toNatClampNeg v2)) := by
    refine ⟨fun k h1 h2 h3 => ?_, ?_, fun _ _ => rfl, fun k hk => if_neg hk, rfl⟩
    · show (upI (upI (upI u 1964 (Int32.ofNat 56)) 865 0) 866 0).1 k = _
      rw [upI_ne h2, upI_ne h1, upI_ne h3]
    · show (upI (upI (upI u 1964 (Int32.ofNat 56)) 865 0) 866 0).1 1964 = _
      rw [upI_ne (by decide), upI_ne (by decide), upI_at]
  have q : Kx1E u (ck (inb (0 : Int32) 2048) ((hg_Te_text N N) (upJ (upI (upI (upI u 1964 (Int32.ofNat 56)) 865 0) 866 0) 45 (vp_updL ((upI (upI (upI u 1964 (Int32.ofNat 56)) 865 0) 866 0).2.2.2 45) (0 : Int32).toNatClampNeg v2)) v1 1 0)) := Kx1_ck (yx1_hg_Te_text (N := N) N _ _ _ _ hc)
  obtain ⟨q1, q2, q3, q4, q5⟩ := q w r e
  refine ⟨fun k hk => ?_, fun k hk => ?_, fun k hk => (q4 k hk).trans (h.2.2.1 k hk), q5.trans h.2.2.2⟩
  · have hk' := hk
    simp only [List.mem_cons, List.not_mem_nil, or_false, not_or] at hk'
    exact (q1 k hk'.2.2.1 hk'.2.2.2.1 hk'.2.2.2.2).trans (h.1 k hk)
  · have hk' := hk
    simp only [List.mem_cons, List.not_mem_nil, or_false, not_or] at hk'
    exact (q3 k hk'.2).trans (h.2.1 k hk)
theorem show_fx {v1 v2 v3 : Int32} (h : Kf1c u0 u) : Kf1E u0 (hm_H_show N u v1 v2 v3) := by
  have k9 : ∀ {w : MS} {r : Int32}, Kf1c u0 w → Kf1E u0 (lt (upI w 9 r) (fun w7 => some (w7, (w7.1 9)))) := fun hw => Kf1_some (Kf1_I hw (by decide))
  have tx : ∀ {w : MS} {b : Nat} {t : Int64}, Kf1c u0 w → Kf1E u0 (bnd (hm_Te_text N w b t 56 0) (fun u5 r5 => lt (upI u5 9 r5) (fun w7 => some (w7, (w7.1 9))))) := fun hw => Kf1_bnd (text_fx hw) (fun w r hw => k9 hw)
  have so : ∀ {w : MS} {r : Int32}, Kf1c u0 w → Kf1E u0 (some (w, r)) := fun hw => Kf1_some hw
  have rd : ∀ {α β : Type} {w : MS} {o : Option (MS × α)} {f : MS → α → Option (MS × β)}, Kf1c u0 w → Kr1E w o → (∀ v r, Kf1c u0 v → Kf1E u0 (f v r)) → Kf1E u0 (bnd o f) := fun hw ho hf => Kf1_bnd (fun v r e => Kf1_r hw (ho v r e)) hf
  have e145 : ∀ {w : MS} {v2 v3 v6 t0 : Int32} {v4 v5 : Nat}, Kf1c u0 w → Kf1E u0 (hb_H_show_145 N () w v2 v3 v4 v5 v6 t0) := fun hw => by
    unfold hb_H_show_145 hb_H_show_209
    exact Kf1_br (Kf1_br (Kf1_ck (tx hw)) (Kf1_br (rd hw (yr1_hm_Fr_of Kr1_rf) (fun w r hw => Kf1_ck (tx hw))) (rd hw (yr1_hm_Fr_of Kr1_rf) (fun w r hw => Kf1_ck (tx hw))))) (so hw)
  unfold hm_H_show hb_H_show_0 hb_H_show_19 hb_H_show_39 hb_H_show_93
  exact rd h (yr1_hm_Wl_find Kr1_rf) (fun w r hw => Kf1_br (so hw) (Kf1_br (Kf1_br (Kf1_bo (fun j => Kf1_br (Kf1_br (Kf1_bo (fun j => tx hw)) (so hw)) (so hw))) (Kf1_br (so hw) (Kf1_br (so hw) (Kf1_bo (fun j => Kf1_br (so hw) (Kf1_br (e145 hw) (Kf1_br (rd hw (yr1_hm_Fr_namesIn Kr1_rf) (fun w r hw => e145 hw)) (rd hw (yr1_hm_Fr_waitsIn Kr1_rf) (fun w r hw => e145 hw))))))))) (so hw)))
end
end
section
set_option maxRecDepth 100000
def TXr (m w : MS) : Prop := (FTs m w ∧ FAr m w ∧ FUs m w) ∧ F m 442 = F w 52 ∧ (ATM w ∧ 22 ≤ F w 14 ∧ ∀ j, j ≤ 22 → A w 13 j = ((fa0 j : Nat) : Int)) ∧ m.1 85 = w.1 9 ∧ ∃ fa na, ATf m w fa na
def NBG (m : MS) : Prop := m.1 942 = 0 ∧ m.1 943 = 0 ∧ m.1 944 = 0 ∧ m.1 945 = 0 ∧ m.1 946 = 0 ∧ m.1 953 = 0
def BGN (m w : MS) : Prop := ∃ (T : TYc) (Fv : Int64 → Int64 → Prop) (P : Int64 → Prop) (PR : Nat) (Fv' : Int64 → Int64 → Prop) (AN : Nat) (TT : TY) (CC : CY) (ND CN PN SN UN FN : Nat), WRD T Fv P PR m ∧ PER Fv' AN TT CC id id ND CN PN SN UN FN w ∧ REST Fv' AN TT ND UN FN PR w ∧ FQs WTr PR Fv P Fv' (PWs AN) m w ∧ TBz m w
def MCH (m w : MS) : Prop := (F w 86 ≠ 0 → TXr m w) ∧ ((F w 87 = 0 ∧ NBG m) ∨ (F w 87 ≠ 0 ∧ F w 86 ≠ 0 ∧ F m 943 ≠ 0 ∧ (0 ≤ F m 944 ∧ F m 944 ≤ 1000000000) ∧ BGN m w))
def FQm (m m2 : MS) : Prop := FR [9, 81, 865, 866, 1964] [] [5, 56] [45] m m2
def FQw (w w2 : MS) : Prop := FR [3, 5, 130, 144] [] [4, 129, 143] [141] w w2
section
variable {Fv Fv' : Int64 → Int64 → Prop} {P P' : Int64 → Prop} {T : TYc} {AN N PR i j0 : Nat} {m w m2 w2 : MS} {RR : Nat → MS → MS → Prop} {cur : Option Nat}
theorem FQm_of (h : Kf1c m m2) : FQm m m2 := ⟨h.1, fun k _ => congrFun h.2.2.2 k, h.2.1, fun k hk => h.2.2.1 k (by simpa using hk)⟩
theorem FQw_of (h : Kw1c w w2) : FQw w w2 := ⟨h.1, fun k _ => congrFun h.2.2.2 k, h.2.1, fun k hk => h.2.2.1 k (by simpa using hk)⟩
theorem FQ_fc (f : FQm m m2) : FC 0 [9, 81, 865, 866, 1964] [] [5, 56] [] [] [] [] m m2 := FC.of f (by simp) (by simp) (by simp) (by simp)
theorem DWc_fq (d : DWc Fv P PR m) (f : FQm m m2) : DWc Fv P PR m2 := by
  have fc := FQ_fc f
  refine DWc_gl d fc (by simp) (by simp) (fun h0 => ?_) (by simp) (by rw [fc.Fg (by omega) (by simp)]; exact d.1.2.2.1) (by rw [fc.Fg (by omega) (by simp)]; exact ⟨d.1.2.2.2.1.2.1, d.1.2.2.2.1.2.2⟩) (by simp)
  have := (d.2 0 h0).1
  unfold SMQ at this ⊢
  rw [fc.Fq (by omega) (by simp), fc.Fq (by omega) (by simp), fc.Fq (by omega) (by simp), fc.Fq (by omega) (by simp)]
  exact this
theorem WRD_q (W : WRD T Fv P PR m) (f : FQm m m2) : WRD T Fv P PR m2 := WRD_g W (FQ_fc f) (DWc_fq W.1 f) (by simp) (by simp)
theorem WL_fq (W0 : WLs RR PR Fv P Fv' P' cur i j0 m w) (f : FQm m m2) (g : FQw w w2) : WLs RR PR Fv P Fv' P' cur i j0 m2 w2 := by
  obtain ⟨⟨d, cx⟩, ⟨dw, lk, wt⟩, pb⟩ := W0.1
  unfold FQw at g
  have f' := f
  unfold FQm at f'
  have lm : ∀ d, LOCm d m m2 := fun d k hk => ⟨f'.1 _ (by simp only [List.mem_cons, List.not_mem_nil, or_false]; unfold pq; omega), f'.2.1 _ (by simp), f'.2.2.1 _ (by simp only [List.mem_cons, List.not_mem_nil, or_false]; unfold pq; omega), f'.2.2.2 _ (by simp only [List.mem_cons, List.not_mem_nil, or_false]; unfold pq; omega)⟩
  have gr : ∀ k, k ∉ [4, 129, 143] → w2.2.2.1 k = w.2.2.1 k := g.2.2.1
  have lw : ∀ d, LOCw d w w2 := fun d => ⟨fun K i h => by
    rw [gr K (by
      simp only [List.mem_cons, List.not_mem_nil, or_false]
      unfold OWi at h
      omega)], fun K hK => by rw [gr K (by simp only [List.mem_cons, List.not_mem_nil, or_false]; omega)], fun i _ _ => by rw [gr 131 (by simp)], by rw [g.2.2.2 111 (by simp)], fun i _ _ => by rw [g.2.2.2 88 (by simp)], fun i _ _ => by rw [g.2.2.2 91 (by simp)], fun i _ _ => by rw [g.2.2.2 93 (by simp)], fun i _ _ => by rw [g.2.2.2 107 (by simp)]⟩
  exact WL_same W0 ⟨⟨DWc_fq d f, CTX_fr cx (f'.1 22 (by simp)) (f'.2.2.1 3 (by simp))⟩, ⟨DW_fr dw g (by simp) (by simp) (by simp) (by simp) (by simp) (by simp) (by simp) (by simp) (by simp) (by simp) (by simp) (by simp) (by simp) (by simp) (by simp) (by simp) (by simp), LK_fr lk g (by simp) (by simp), WTQ_fr wt g (by simp) (by simp) (by simp)⟩, pb⟩ (PGs_fr f' g (by simp) (by simp) (by simp) (by simp) (by simp [PRr]) (by simp)) lm lw (f'.1 955 (by simp)) (f'.2.2.1 54 (by simp)) (g.1 150 (by simp)) (fun K hK => gr K (by simp only [List.mem_cons, List.not_mem_nil, or_false]; omega)) (g.2.2.2 148 (by simp))
theorem ATM_q (h : ATM w) (g : FQw w w2) : ATM w2 := by
  unfold FQw at g
  unfold ATM at h ⊢
  rw [FR.F g (by simp)]
  exact ⟨h.1, h.2.1, fun k hk => by rw [FR.A g (by simp), FR.A g (by simp)]; exact h.2.2 k hk⟩
theorem FQ_q (h : FQs RR PR Fv P Fv' P' m w) (f : FQm m m2) (g : FQw w w2) : FQs RR PR Fv P Fv' P' m2 w2 := by
  obtain ⟨i, W, ⟨h1, h2⟩, ⟨h3, h4⟩, cn, wt⟩ := h
  have W2 := WL_fq W f g
  have at2 := ATM_q cn.2.1 g
  unfold FQm at f
  unfold FQw at g
  exact ⟨i, W2, ⟨by rw [FR.F f (by simp)]; exact h1, by rw [FR.F f (by simp)]; exact h2⟩, ⟨by rw [FR.F g (by simp)]; exact h3, by rw [FR.F g (by simp)]; exact h4⟩, CN_pg cn (PG0_fr f g (by simp) (by simp) (by simp) (by simp [PRr]) (by simp)) at2, WTs_st wt (f.1 950 (by simp)) (fun k hk => f.2.2.1 k (by simp only [List.mem_cons, List.not_mem_nil, or_false]; omega)) (g.1 125 (by simp)) (fun k hk => g.2.2.1 k (by simp only [List.mem_cons, List.not_mem_nil, or_false]; omega))⟩
theorem TBt_q (h : FTs m w ∧ FAr m w ∧ FUs m w) (f : FQm m m2) (g : FQw w w2) : FTs m2 w2 ∧ FAr m2 w2 ∧ FUs m2 w2 := by
  unfold FQm at f
  unfold FQw at g
  exact TB_tab h ⟨f.1 442 (by simp), f.1 449 (by simp)⟩ (fun K hK => f.2.2.1 K (by simp only [List.mem_cons, List.not_mem_nil, or_false]; omega)) (fun K hK => g.2.2.1 K (by unfold PRr at hK; simp only [List.mem_cons, List.not_mem_nil, or_false]; omega)) (g.2.2.2 34 (by simp))
theorem AT_q {fa : Nat → Nat} {na : Nat} (h : ATf m w fa na) (f : FQm m m2) (g : FQw w w2) : ATf m2 w2 fa na := by
  unfold FQm at f
  unfold FQw at g
  exact ATf_k h (f.1 22 (by simp)) (f.2.2.1 2 (by simp)) (f.2.2.1 3 (by simp)) (g.1 14 (by simp)) (g.2.2.1 12 (by simp)) (g.2.2.1 13 (by simp))
theorem TBz_q (h : TBz m w) (f : FQm m m2) (g : FQw w w2) : TBz m2 w2 := by
  obtain ⟨t1, t2, ⟨t3, t4, t5⟩, fa, na, t7⟩ := h
  have a1 := TBt_q t1 f g
  have a7 := AT_q t7 f g
  unfold FQm at f
  unfold FQw at g
  exact ⟨a1, PN_st t2 (f.1 953 (by simp)) (fun K hK => f.2.2.1 K (by simp only [List.mem_cons, List.not_mem_nil, or_false]; omega)) (g.1 128 (by simp)) (fun K hK => g.2.2.1 K (by simp only [List.mem_cons, List.not_mem_nil, or_false]; omega)), ⟨CLk_st t3 (f.1 944 (by simp)) (g.1 120 (by simp)), by rw [f.1 945 (by simp), g.1 121 (by simp)]; exact t4, by rw [f.1 946 (by simp), g.1 119 (by simp)]; exact t5⟩, fa, na, a7⟩
theorem TXr_q (h : TXr m w) (f : FQm m m2) (g : FQw w w2) : TXr m2 w2 := by
  obtain ⟨t1, t2, ⟨t3, t4, t5⟩, t6, fa, na, t7⟩ := h
  have a1 := TBt_q t1 f g
  have a3 := ATM_q t3 g
  have a7 := AT_q t7 f g
  unfold FQm at f
  unfold FQw at g
  exact ⟨a1, by rw [FR.F f (by simp), FR.F g (by simp)]; exact t2, ⟨a3, by rw [FR.F g (by simp)]; exact t4, fun j hj => by rw [FR.A g (by simp)]; exact t5 j hj⟩, by rw [f.1 85 (by simp), g.1 9 (by simp)]; exact t6, fa, na, a7⟩
theorem BGN_q (h : BGN m w) (f : FQm m m2) (g : FQw w w2) : BGN m2 w2 := by
  obtain ⟨T, Fv, P, PR, Fv', AN, TT, CC, ND, CN, PN, SN, UN, FN, h1, h2, h3, h4, h5⟩ := h
  refine ⟨T, Fv, P, PR, Fv', AN, TT, CC, ND, CN, PN, SN, UN, FN, WRD_q h1 f, ?_, ?_, FQ_q h4 f g, TBz_q h5 f g⟩
  · unfold FQw at g
    exact PER_fr h2 g (by decide) (by decide)
  · unfold FQw at g
    exact REST_fr h3 (PRG_26 h2.1) g (by decide) (by decide) (by decide)
theorem NBG_q (h : NBG m) (f : FQm m m2) : NBG m2 := by
  unfold FQm at f
  unfold NBG at h ⊢
  rw [f.1 942 (by simp), f.1 943 (by simp), f.1 944 (by simp), f.1 945 (by simp), f.1 946 (by simp), f.1 953 (by simp)]
  exact h
theorem MCH_q (h : MCH m w) (f : FQm m m2) (g : FQw w w2) : MCH m2 w2 := by
  have f' := f
  have g' := g
  unfold FQm at f'
  unfold FQw at g'
  have e86 : F w2 86 = F w 86 := FR.F g' (by simp)
  have e87 : F w2 87 = F w 87 := FR.F g' (by simp)
  refine ⟨fun z => TXr_q (h.1 (by rw [← e86]; exact z)) f g, ?_⟩
  rcases h.2 with ⟨a1, a2⟩ | ⟨a1, a2, a3, a4, a5⟩
  · exact Or.inl ⟨by rw [e87]; exact a1, NBG_q a2 f⟩
  · exact Or.inr ⟨by rw [e87]; exact a1, by rw [e86]; exact a2, by rw [FR.F f' (by simp)]; exact a3, by rw [FR.F f' (by simp)]; exact a4, BGN_q a5 f g⟩
end
end
section
set_option maxRecDepth 100000
section
variable {T : TYc} {Fv Fv' : Int64 → Int64 → Prop} {P P' : Int64 → Prop} {AN N PR : Nat} {m w m2 w2 : MS} {u : CS} {c : Nat → Nat} {r s v1 : Int32} {x : Int}
theorem FQm_rf : FQm m m := FR.rf
theorem FQw_3 : FQw w (wi w 3 x) := FR.wi FR.rf (by simp)
theorem FQw_3u {y : Int32} : FQw w (upI w 3 y) := by
  have : upI w 3 y = wi w 3 y.toInt := by rw [← wi_e, ← I_of y]
  rw [this]
  exact FQw_3
theorem TXr_b (h : TXr m w) (tb : TBz m2 w2) (k : KPS m m2) (e52 : w2.1 52 = w.1 52) (e14 : w2.1 14 = w.1 14) (e9 : w2.1 9 = w.1 9) (e13 : w2.2.2.1 13 = w.2.2.1 13) : TXr m2 w2 := by
  obtain ⟨t1, t2, ⟨t3, t4, t5⟩, t6, -⟩ := h
  have a13 : ∀ j, A w2 13 j = A w 13 j := fun j => by show (w2.2.2.1 13 j).toInt = _; rw [e13]; rfl
  have f14 : F w2 14 = F w 14 := congrArg Int32.toInt e14
  refine ⟨tb.1, ?_, ⟨?_, by rw [f14]; exact t4, fun j hj => by rw [a13]; exact t5 j hj⟩, by rw [k.1 85 (by decide), e9]; exact t6, tb.2.2.2⟩
  · rw [show F m2 442 = F m 442 from congrArg Int32.toInt (k.1 442 (by decide)), show F w2 52 = F w 52 from congrArg Int32.toInt e52]
    exact t2
  · unfold ATM at t3 ⊢
    rw [f14]
    exact ⟨t3.1, t3.2.1, fun k hk => by rw [a13, a13]; exact t3.2.2 k hk⟩
theorem FI_eq {a b : MS} {j k : Nat} (h : F a j = F b k) : a.1 j = b.1 k := Int32.toInt_inj.mp h
theorem count_e (h : MCH m w) (z : RZf m w) : PP (fun m2 r w2 s => (m2 = m ∧ w2 = upI w 3 0) ∧ r = s) (hm_H_count N m v1) (fm_M_count N w v1) := by
  have e10 : decide (m.1 10 = 0) = decide (w.1 86 = 0) := by
    rcases z.2.2.2.2 with ⟨a, b⟩ | ⟨a, b, -⟩
    · rw [a, b]
    · rw [a, b]
  have tx : w.1 86 ≠ 0 → TXr m w := fun q => h.1 (fun e => q (by rw [I_F' e]; rfl))
  show PP _ (hb_H_count_0 N () m v1) (fb_M_count_0 N () w v1)
  unfold hb_H_count_0 hb_H_count_70 hb_H_count_89 hb_H_count_108 fb_M_count_0 fb_M_count_71 fb_M_count_87 fb_M_count_103 fb_M_count_124 fb_M_count_140 fb_M_count_156 fb_M_count_172 fb_M_count_188
  refine r_lt ?_
  have wi3 : ∀ k, k ≠ 3 → (upI w 3 0).1 k = w.1 k := fun k hk => upI_ne hk
  rw [wi3 86 (by decide), wi3 9 (by decide), wi3 52 (by decide), wi3 14 (by decide), wi3 5 (by decide), wi3 87 (by decide), wi3 118 (by decide), wi3 128 (by decide), wi3 119 (by decide), wi3 120 (by decide), wi3 121 (by decide), e10]
  have ed : ∀ {a b : Int32}, a = b → PP (fun m2 r w2 s => (m2 = m ∧ w2 = upI w 3 0) ∧ r = s) (some (m, a)) (some (upI w 3 0, b)) := fun e => pp_end ⟨⟨rfl, rfl⟩, e⟩
  have tn : ∀ {a b : Int32}, (TXr m w → a = b) → PP (fun m2 r w2 s => (m2 = m ∧ w2 = upI w 3 0) ∧ r = s) (br (decide (w.1 86 = 0)) (some (m, 0)) (some (m, a))) (br (decide (w.1 86 = 0)) (some (upI w 3 0, 0)) (some (upI w 3 0, b))) := fun {a b} e => by
    by_cases q : w.1 86 = 0
    · rw [decide_eq_true q, br_tq, br_tq]; exact ed rfl
    · rw [decide_eq_false q, br_fq, br_fq]; exact ed (e (tx q))
  have rn : ∀ {a b : Int32}, (NBG m → a = 0) → (BGN m w → a = b) → PP (fun m2 r w2 s => (m2 = m ∧ w2 = upI w 3 0) ∧ r = s) (some (m, a)) (br (decide (w.1 87 = 0)) (some (upI w 3 0, 0)) (some (upI w 3 0, b))) := fun {a b} e1 e2 => by
    rcases h.2 with ⟨q, q2⟩ | ⟨q, -, -, -, q2⟩
    · rw [decide_eq_true (show w.1 87 = 0 by rw [I_F' q]; rfl), br_tq]; exact ed (e1 q2)
    · rw [decide_eq_false (fun e => q (by unfold F; rw [e]; rfl)), br_fq]; exact ed (e2 q2)
  have st : ∀ {b : Bool} {p1 q1 : Option (MS × Int32)} {p2 q2 : Option (MS × Int32)}, PP (fun m2 r w2 s => (m2 = m ∧ w2 = upI w 3 0) ∧ r = s) p1 p2 → PP (fun m2 r w2 s => (m2 = m ∧ w2 = upI w 3 0) ∧ r = s) q1 q2 → PP (fun m2 r w2 s => (m2 = m ∧ w2 = upI w 3 0) ∧ r = s) (br b p1 q1) (br b p2 q2) := fun {b p1 q1 p2 q2} h1 h2 => by
    cases b
    · exact h2
    · exact h1
  have b118 : BGN m w → m.1 942 = w.1 118 := fun ⟨T, Fv, P, PR, Fv', AN, TT, CC, ND, CN, PN, SN, UN, FN, h1, h2, h3, h4, h5⟩ => FI_eq (h1.1.1.1.1.trans h3.1.1.1.symm)
  have bt : BGN m w → TBz m w := fun ⟨T, Fv, P, PR, Fv', AN, TT, CC, ND, CN, PN, SN, UN, FN, h1, h2, h3, h4, h5⟩ => h5
  refine st (tn (fun t => t.2.2.2.1)) (st (tn (fun t => FI_eq t.2.1)) (st (tn (fun t => ?_)) (st (ed (FI_eq z.1)) (st (rn (fun n => n.1) b118) (st (rn (fun n => n.2.2.2.2.2) (fun b => (bt b).2.1.1)) (st (rn (fun n => n.2.2.2.2.1) (fun b => (bt b).2.2.1.2.2)) (st (rn (fun n => n.2.2.1) (fun b => (bt b).2.2.1.1.1)) (st (rn (fun n => n.2.2.2.1) (fun b => (bt b).2.2.1.2.1)) (ed rfl)))))))))
  obtain ⟨fa, na, a⟩ := t.2.2.2.2
  exact a.1.1.trans a.2.1.1.symm
theorem clr_n : PK (fun v (_ : Unit) => NBG v) (hm_Wl_clearAll N m) := by
  unfold hm_Wl_clearAll hb_Wl_clearAll_0
  exact pk_ltq (pk_ltq (pk_ltq (pk_ltq (pk_ltq (pk_ltq (pk_ltq (pk_ltq (pk_ltq (pk_some ⟨rfl, rfl, rfl, rfl, rfl, rfl⟩)))))))))
theorem read_nb : PK (fun v (_ : Int32) => NBG v) (hm_H_read N m) := by
  have e27 : ∀ {w : MS} {r : Int32}, PK (fun v (_ : Int32) => NBG v) (hb_H_read_27 N () w r) := fun {w r} => by
    unfold hb_H_read_27 hb_H_read_45
    exact pk_ltq (pk_br (fun _ => pk_ck (fun _ => pk_ltq (pk_bnd (pk_mo clr_n (fun v _ hv => pk_some hv))))) (fun _ => pk_ck (fun _ => pk_ltq (pk_bnd (pk_mo clr_n (fun v _ hv => pk_some hv))))))
  unfold hm_H_read hb_H_read_0
  exact pk_bnd (fun _ _ _ => pk_bnd (fun _ _ _ => pk_br (fun _ => pk_bnd (fun _ _ _ => e27)) (fun _ => e27)))
theorem read_mch (hN : 1000000000000000 ≤ N) (R : RP none c m u) (i1 : INVc m) (i2 : INV w) (z : RZf m w) (ec : hm_H_read N m = some (m2, r)) (ew : fm_M_read N w = some (w2, s)) (h87 : F w2 87 = 0) : MCH m2 w2 := by
  refine ⟨fun q => ?_, Or.inl ⟨h87, read_nb m2 r ec⟩⟩
  rcases (read_z hN R i1 i2 z ec ew).2.2.2.2 with ⟨a, b⟩ | ⟨a, b, -, at'⟩
  · exact absurd (show F w2 86 = 0 by unfold F; rw [b]; rfl) q
  · obtain ⟨t1, t2, t3, t4⟩ := read_t hN R i1 i2 z ec ew a
    exact ⟨t1, t2, t3, t4, at'⟩
end
end
