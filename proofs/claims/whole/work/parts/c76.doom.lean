/-! patterns are tried, there alone: one pattern, all that cannot fit -/
set_option maxRecDepth 100000
section
variable {N p B0 : Nat} {m0 : MS} {Q : MS → Int32 → Prop}
theorem in_va {z : Int64} {n : Nat} (e : inb (z.toInt32) n = true) : va z = ((vn z : Nat) : Int) ∧ vn z < n := by
  have r := va_r z
  unfold inb at e
  have e2 := of_decide_eq_true e
  rw [valI, lit0, I_lt r.1 r.2 (by omega) (by omega)] at e2
  have h0 : 0 ≤ va z := by omega
  have hv : va z = ((vn z : Nat) : Int) := by unfold vn; omega
  refine ⟨hv, ?_⟩
  rw [hv, tnI (n := vn z) rfl (by omega)] at e2
  omega
/-- one pattern: it fits or not; behind it the stack is as it was below -/
theorem pc_one (hQ : ∀ m2, NFx p B0 m0 m2 → Q m2 (-1)) : ∀ {f i j : Nat}, PCq (A m0 23) f i j → ∀ (M top cnt : Nat) (s : Nat → Int64) (m : MS), KFb p B0 m0 s (top + 1) m → j < 24000 → cnt ≤ i → top < 100000 → (∀ (M2 cnt2 : Nat) (m2 : MS), KFb p B0 m0 s top m2 → cnt2 ≤ j → PK Q ((hg_Ma_fit N M2).1 m2 p (I ((j : Nat) : Int)) (I ((top : Nat) : Int)) (I ((cnt2 : Nat) : Int)))) → PK Q ((hg_Ma_fit N M).1 m p (I ((i : Nat) : Int)) (I ((top + 1 : Nat) : Int)) (I ((cnt : Nat) : Int)))
  | 0, _, _, z => z.elim
  | f + 1, i, j, z => by
    intro M top cnt s m kb hj hc ht kk
    have ij := PCq_lt z
    cases M with
    | zero => exact pk_none
    | succ M =>
    show PK Q (hb_Ma_fit_17 N (hg_Ma_fit N M) m p (I ((i : Nat) : Int)) (I ((top + 1 : Nat) : Int)) (I ((cnt : Nat) : Int)))
    unfold hb_Ma_fit_17 hb_Ma_fit_57 hb_Ma_fit_262 hb_Ma_fit_364
    have eT : I ((top + 1 : Nat) : Int) + (-1) = I ((top : Nat) : Int) := by rw [m1I, I_add]; congr 1; omega
    have e1 : I ((i : Nat) : Int) + 1 = I ((i + 1 : Nat) : Int) := addN
    have ec : I ((cnt : Nat) : Int) + 1 = I ((cnt + 1 : Nat) : Int) := addN
    have c8 : decide (I (A m0 23 i) = 8) = false := by
      rcases z with ⟨z, -⟩ | ⟨z, -⟩ | ⟨z | z, -⟩ | ⟨z, -⟩ | ⟨z, -⟩ | ⟨z, -⟩ <;> rw [z] <;> rfl
    rw [show (1000000000 : Int32) = I 1000000000 from rfl, decI (by omega) (by omega) (by omega) (by omega), decide_eq_false (by omega), br_f, Co_e (k := i) rfl (by omega), bnd_so, kb.1.c, c8, br_f]
    refine pk_br (fun _ => pk_some (hQ _ kb.1)) (fun _ => pk_br (fun c9 => pk_ck (fun _ => ?_)) (fun _ => pk_some (hQ _ kb.1)))
    have t9 : top + 8 < 2048 := by
      have c := of_decide_eq_true c9
      rw [eT, show (8 : Int32) = I ((8 : Nat) : Int) from rfl, addN, show (2048 : Int32) = I 2048 from rfl, I_lt (by omega) (by omega) (by omega) (by omega)] at c
      omega
    rw [eT, e1, Co_e (k := i + 1) rfl (by omega), bnd_so, Co_e (k := i) rfl (by omega), bnd_so, kb.1.c, ec]
    have st : ∀ m2, NFx p B0 m0 m2 ∧ m2.2.2.2 44 = m.2.2.2 44 → KFb p B0 m0 s top m2 := fun m2 kx => KFb_k kb kx (by omega)
    have s0 : KFb p B0 m0 s top m := KFb_l kb (by omega)
    rcases z with ⟨z, z1⟩ | ⟨z, l, z1, z2⟩ | ⟨z | z, z1⟩ | ⟨z, z1⟩ | ⟨z, n, z1, z2, ci, z3, z4, z5⟩ | ⟨z, hh, z1, z2⟩
    · rw [z, show decide (I 1 = 1) = true from rfl, br_t]
      refine pk_bnd (pk_mo Co_u (fun w r e => ?_))
      subst e
      refine pk_bnd (pk_some ?_)
      refine pk_br (fun _ => ?_) (fun _ => pk_some (hQ _ kb.1))
      rw [show I ((i : Nat) : Int) + 3 = I ((i + 3 : Nat) : Int) from addN, ← z1]
      exact kk M (cnt + 1) _ s0 (by omega)
    · rw [z, show decide (I 2 = 1) = false from rfl, br_f, show decide (I 2 = 2) = true from rfl, br_t]
      refine pk_bnd (pk_mo kf_str (fun w r e => ?_))
      subst e
      refine pk_br (fun _ => pk_some (hQ _ kb.1)) (fun _ => ?_)
      rw [z1, show (2 : Int32) = I ((2 : Nat) : Int) from rfl, addN, addN, show i + (2 + l) = j by omega]
      exact kk M (cnt + 1) _ s0 (by omega)
    · rw [z, show decide (I 3 = 1) = false from rfl, br_f, show decide (I 3 = 2) = false from rfl, br_f, show decide (I 3 = 3) = true from rfl, br_t]
      refine pk_bnd (pk_mo kf_term (fun w r e => ?_))
      subst e
      refine pk_bnd (pk_mo (kf_order (p := p) (B0 := B0) (m0 := m0) kb.1) (fun w2 r2 kx => ?_))
      refine pk_br (fun _ => ?_) (fun _ => pk_some (hQ _ kx.1))
      rw [show I ((i : Nat) : Int) + 2 = I ((i + 2 : Nat) : Int) from addN, ← z1]
      exact kk M (cnt + 1) _ (st _ kx) (by omega)
    · rw [z, show decide (I 4 = 1) = false from rfl, br_f, show decide (I 4 = 2) = false from rfl, br_f, show decide (I 4 = 3) = false from rfl, br_f, show decide (I 4 = 4) = true from rfl, br_t]
      refine pk_bnd (pk_mo (kf_bind kb.1) (fun w r kx => ?_))
      rw [show I ((i : Nat) : Int) + 2 = I ((i + 2 : Nat) : Int) from addN, ← z1]
      exact kk M (cnt + 1) _ (st _ kx) (by omega)
    · rw [z, show decide (I 5 = 1) = false from rfl, br_f, show decide (I 5 = 2) = false from rfl, br_f, show decide (I 5 = 3) = false from rfl, br_f, show decide (I 5 = 4) = false from rfl, br_f, show decide (I 5 = 5) = true from rfl, br_t]
      rw [show i + 1 = j by omega]
      exact kk M (cnt + 1) _ s0 (by omega)
    · rw [z, show decide (I 6 = 1) = false from rfl, br_f, show decide (I 6 = 2) = false from rfl, br_f, show decide (I 6 = 3) = false from rfl, br_f, show decide (I 6 = 4) = false from rfl, br_f, show decide (I 6 = 5) = false from rfl, br_f, show decide (I 6 = 6) = true from rfl, br_t, e_tag, bnd_so]
      refine pk_br (fun _ => pk_ck (fun hi => pk_br (fun _ => ?_) (fun _ => pk_some (hQ _ kb.1)))) (fun _ => pk_some (hQ _ kb.1))
      obtain ⟨v1, v2⟩ := in_va hi
      rw [z1]
      refine tup_push (nn := n) v1 (by omega) z2 n M top s m (Nat.le_refl _) (by omega) s0 (fun M2 m2 kb2 => ?_)
      have inn : ∀ (d M3 cnt3 : Nat) (m3 : MS), d ≤ n → KFb p B0 m0 (fun k => if top ≤ k then m0.2.2.2 (pq p 2) (vn (m.2.2.2 44 (I ((top : Nat) : Int)).toNatClampNeg) + (n - (k - top))) else s k) (top + d) m3 → cnt3 ≤ ci (n - d) → PK Q ((hg_Ma_fit N M3).1 m3 p (I ((ci (n - d) : Nat) : Int)) (I ((top + d : Nat) : Int)) (I ((cnt3 : Nat) : Int))) := by
        intro d
        induction d with
        | zero =>
          intro M3 cnt3 m3 _ kb3 hc3
          rw [Nat.sub_zero, z4] at hc3 ⊢
          refine kk M3 cnt3 m3 ⟨kb3.1, fun k hk => ?_⟩ hc3
          rw [kb3.2 k (by omega)]
          exact if_neg (by omega)
        | succ d ih =>
          intro M3 cnt3 m3 hd kb3 hc3
          have p5 := z5 (n - (d + 1)) (by omega)
          rw [show n - (d + 1) + 1 = n - d by omega] at p5
          have le2 : ci (n - d) ≤ j := by
            have := up_le (c := ci) (n := n) (fun k hk => Nat.le_of_lt (PCq_lt (z5 k hk))) d (n - d) (by omega)
            rw [show n - d + d = n by omega, z4] at this
            exact this
          exact pc_one hQ p5 M3 (top + d) cnt3 _ m3 kb3 (by omega) hc3 (by omega) (fun M4 cnt4 m4 kb4 hc4 => ih M4 cnt4 m4 (by omega) kb4 hc4)
      have := inn n M2 (cnt + 1) m2 (Nat.le_refl _) kb2 (by rw [Nat.sub_self, z3]; omega)
      rw [Nat.sub_self, z3] at this
      rw [show I ((i : Nat) : Int) + 2 = I ((i + 2 : Nat) : Int) from addN, show I ((cnt : Nat) : Int) + 1 = I ((cnt + 1 : Nat) : Int) from addN]
      exact this
    · rw [z, show decide (I 7 = 1) = false from rfl, br_f, show decide (I 7 = 2) = false from rfl, br_f, show decide (I 7 = 3) = false from rfl, br_f, show decide (I 7 = 4) = false from rfl, br_f, show decide (I 7 = 5) = false from rfl, br_f, show decide (I 7 = 6) = false from rfl, br_f, show decide (I 7 = 7) = true from rfl, br_t, e_tag, bnd_so]
      refine pk_br (fun _ => pk_ck (fun _ => pk_ck (fun _ => pk_lt (pk_ck (fun _ => pk_ck (fun _ => pk_lt ?_)))))) (fun _ => pk_some (hQ _ kb.1))
      rw [show I ((top : Nat) : Int) + 1 = I ((top + 1 : Nat) : Int) from addN, show I ((top : Nat) : Int) + 2 = I ((top + 1 + 1 : Nat) : Int) from addN, tnI (n := top) rfl (by omega), tnI (n := top + 1) rfl (by omega)]
      have k1 := KFb_w (z := m.2.2.2 (pq p 2) ((m.2.2.2 44 top).toInt32 + 1).toNatClampNeg) s0
      have k2 := KFb_w (z := (upJ m 44 (vp_updL (m.2.2.2 44) top (m.2.2.2 (pq p 2) ((m.2.2.2 44 top).toInt32 + 1).toNatClampNeg))).2.2.2 (pq p 2) ((m.2.2.2 44 top).toInt32).toNatClampNeg) k1
      have l2 := PCq_lt z2
      refine pc_one hQ z1 M (top + 1) (cnt + 1) _ _ k2 (by omega) (by omega) (by omega) (fun M2 cnt2 m2 kb2 hc2 => ?_)
      refine pc_one hQ z2 M2 top cnt2 _ m2 kb2 hj hc2 ht (fun M3 cnt3 m3 kb3 hc3 => kk M3 cnt3 m3 ⟨kb3.1, fun k hk => ?_⟩ hc3)
      rw [kb3.2 k hk]
      dsimp only
      rw [if_neg (by omega), if_neg (by omega)]
/-- what cannot fit does not -/
theorem doom_m : ∀ (r : Nat) (i idx : Nat) (s : Nat → Int64), DMr (A m0 23) s r i idx → ∀ (M cnt : Nat) (m : MS), KFb p B0 m0 s (idx + 1) m → cnt ≤ i → idx < 100000 → PK (fun m2 z => z = I (-1) ∧ NFx p B0 m0 m2) ((hg_Ma_fit N M).1 m p (I ((i : Nat) : Int)) (I ((idx + 1 : Nat) : Int)) (I ((cnt : Nat) : Int))) := by
  intro r
  induction r with
  | zero =>
    intro i idx s dm M cnt m kb hc hx
    obtain ⟨hi, dm⟩ := dm
    cases M with
    | zero => exact pk_none
    | succ M =>
    show PK _ (hb_Ma_fit_17 N (hg_Ma_fit N M) m p (I ((i : Nat) : Int)) (I ((idx + 1 : Nat) : Int)) (I ((cnt : Nat) : Int)))
    unfold hb_Ma_fit_17 hb_Ma_fit_57 hb_Ma_fit_364
    have eT : I ((idx + 1 : Nat) : Int) + (-1) = I ((idx : Nat) : Int) := by rw [m1I, I_add]; congr 1; omega
    have c8 : decide (I (A m0 23 i) = 8) = false := by
      rcases dm with ⟨z, -⟩ | ⟨z, -⟩ <;> rw [z] <;> rfl
    rw [show (1000000000 : Int32) = I 1000000000 from rfl, decI (by omega) (by omega) (by omega) (by omega), decide_eq_false (by omega), br_f, Co_e (k := i) rfl (by omega), bnd_so, kb.1.c, c8, br_f]
    refine pk_br (fun _ => pk_some ⟨rfl, kb.1⟩) (fun _ => pk_br (fun _ => pk_ck (fun _ => ?_)) (fun _ => pk_some ⟨rfl, kb.1⟩))
    rw [eT, show I ((i : Nat) : Int) + 1 = I ((i + 1 : Nat) : Int) from addN, Co_e (k := i + 1) rfl (by omega), bnd_so, Co_e (k := i) rfl (by omega), bnd_so, kb.1.c, tnI (n := idx) rfl (by omega), kb.2 idx (by omega)]
    rcases dm with ⟨z, z1⟩ | ⟨z, z1⟩
    · rw [z, show decide (I 7 = 1) = false from rfl, br_f, show decide (I 7 = 2) = false from rfl, br_f, show decide (I 7 = 3) = false from rfl, br_f, show decide (I 7 = 4) = false from rfl, br_f, show decide (I 7 = 5) = false from rfl, br_f, show decide (I 7 = 6) = false from rfl, br_f, show decide (I 7 = 7) = true from rfl, br_t, e_tag, bnd_so, show (7 : Int32) = I 7 from rfl, decE (so_r _).1 (so_r _).2 (by omega) (by omega), decide_eq_false z1, br_f]
      exact pk_some ⟨rfl, kb.1⟩
    · rw [z, show decide (I 1 = 1) = true from rfl, br_t, show I ((i : Nat) : Int) + 2 = I ((i + 2 : Nat) : Int) from addN, Co_e (k := i + 2) rfl hi, bnd_so, kb.1.c, e_make, bnd_so, dec_lg0 z1, br_f]
      exact pk_some ⟨rfl, kb.1⟩
  | succ r ih =>
    intro i idx s dm M cnt m kb hc hx
    obtain ⟨f, j, z1, z0, z2, z3⟩ := dm
    obtain ⟨k, rfl⟩ : ∃ k, idx = k + 1 := ⟨idx - 1, by omega⟩
    refine pc_one (fun _ k => ⟨rfl, k⟩) z1 M (k + 1) cnt s m kb z0 hc hx (fun M2 cnt2 m2 kb2 hc2 => ?_)
    rw [Nat.add_sub_cancel] at z3
    exact ih j k s z3 M2 cnt2 m2 kb2 hc2 (by omega)
end
