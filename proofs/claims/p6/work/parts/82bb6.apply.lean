set_option maxRecDepth 100000
section
variable {u v w : MS} {N lv t hi hi2 lo lo2 o o2 q r s c h m g x d a b k n f Q cl la : Nat} {ps : Nat → Nat} {S : SF_Cm_fun}
theorem applyX_ok (hR : RoS N S (o + 1)) (hu : CMP u lv c ps Q o lo) (hf : f ≤ 120) (ht : t ≤ 4000) (hla : la ≤ 1) : ∀ (k M : Nat) (n x hi a b s r : Nat) (v : MS), RWc v 0 (AGc v (XPc v f (o + 1) 3)) k n x hi a b s r → PXS u v lv ps lo x q s o False 1 → (F v 714 = 1000000000 → F u 712 = 0) → lo < x → q ≤ s → b ≤ 8000 → hi ≤ c → r ≤ Q → k + 1 ≤ M → OK (fun w _ => PXS u w lv ps lo hi q r o (la = 1) 1) (hg_Cm_apply N S M v (I ((la : Nat) : Int)) (I ((t : Nat) : Int)) (I ((n : Nat) : Int)))
  | 0, _, _, _, _, _, _, _, _, _, h, _, _, _, _, _, _, _, _ => h.elim
  | k + 1, M, n, x, hi, a, b, s, r, v, h, pv, hg, hlx, hqs, hb, hh, hQ, hM => by
    obtain ⟨M, rfl⟩ : ∃ M2, M = M2 + 1 + 1 := ⟨M - 2, by omega⟩
    show OK _ (hb_Cm_apply_40 N S (hg_Cm_apply N S (M + 1)) v (I ((la : Nat) : Int)) (I ((t : Nat) : Int)) (I ((n : Nat) : Int)))
    obtain ⟨m, c2, s2, e, h⟩ := h
    obtain ⟨he, e16, k2, m2, c3, e18, e19, hk2, hr, hc3⟩ := e
    unfold HDc at he
    have hms : m ≤ hi ∧ c2 ≤ b ∧ s2 ≤ r := by
      rcases h with ⟨-, -, h1, h2, h3⟩ | ⟨-, n2, -, h3⟩
      · omega
      · have := (RW_hd AG_bd h3).1; unfold HDc at this; omega
    have g1 := OR_hd (XP_bd f (o + 1) 3) hr
    have hcs := CMP_c hu
    have i1 : inb (I ((n : Nat) : Int)) 8016 = true := (I_inb (by omega) (by omega)).mpr ⟨by omega, by omega⟩
    have i2 : inb (I ((t : Nat) : Int)) 4002 = true := (I_inb (by omega) (by omega)).mpr ⟨by omega, by omega⟩
    unfold hb_Cm_apply_40
    refine k_c (y := 0) rfl ⟨by omega, by omega⟩ ⟨by decide, by decide⟩ (fun z => absurd z (by omega)) (fun _ => ?_)
    rw [i1, ck_t, tnI (n := n) rfl (by omega), I_A (k := 18), e18, ok_bnd]
    refine ok_mono (hR f k2 v lv c Q ps m2 (x + 1) (m - 1) a c3 s s2 hf (CMP_s hu pv (by omega) (by omega) (by omega)) hr (by clear h; omega) (by clear h; omega) (by clear h; omega)) (fun v2 _ p1 => ?_)
    have wb := WB_2 hcs.1 (lo := lo) (m := x) (lo2 := x + 1) (hi := m - 1) (by omega) (by omega) (by omega) (by clear h; omega)
    have wb2 := WB_1 hcs.1 (lo := lo) (lo2 := lo) (hi2 := m - 1) (hi := m) (by omega) (by omega) (by omega) (by clear h; omega)
    have p1' : PXS v v2 lv ps (x + 1) (m - 1) s s2 o False k2 := PC_w p1 (Int.le_refl _) (Nat.le_refl _) (Nat.le_refl _) (fun _ y => TY_mo y (Nat.le_refl _) (by omega) (fun z => z))
    have p2 := PC_two hu.1 pv p1' (by clear h; omega) hqs (by clear h; omega) (hd := by omega) (W := WBc ps lo (m - 1)) (t := m - lo) (by clear h; omega) (by clear h; omega)
    have c2v := p2.1.2.1
    have e87 : ∀ (y : Int) (la2 : Prop), (y = 27 ∨ (y = 28 ∧ la2)) → (∀ w, PXS u w lv ps lo m q s2 o la2 1 → KMF v w → (F w 714 = 1000000000 → F u 712 = 0) → OK (fun w _ => PXS u w lv ps lo hi q r o (la = 1) 1) (hg_Cm_apply N S (M + 1) w (I ((la : Nat) : Int)) (I ((t : Nat) : Int)) (w.2.2.1 21 n))) → OK (fun w _ => PXS u w lv ps lo hi q r o (la = 1) 1) (hb_Cm_apply_87 N S (hg_Cm_apply N S (M + 1)) v2 (I ((la : Nat) : Int)) (I ((t : Nat) : Int)) (I ((n : Nat) : Int)) (I y)) := fun y la2 hy kk => by
      unfold hb_Cm_apply_87
      refine put_1 (x := y) c2v.1 ⟨by omega, by omega⟩ (fun w1 e1 => ?_)
      rw [i1, ck_t, tnI (n := n) rfl (by omega), I_A (k := 19), (EMc.km c2v e1).1.A (j := 19) (by simp), p1.1.1.A (j := 19) (by simp), e19]
      refine put_B (x := ((k2 : Nat) : Int)) c2v.1.1 e1 ⟨by omega, by omega⟩ (fun w2 e2 => ?_)
      rw [i2, ck_t, I_A (k := 8)]
      refine put_B c2v.1.1 e2 (A_r _ _ _) (fun w3 e3 => kk w3 ?_ ?_ ?_)
      · have p4 := PC_tail (hi := m) (W := WBc ps lo m) (la := la2) (d2 := 1) p2 e3 (by clear h; omega) (by clear h; omega) (by simp; clear h; omega) (fun z => z.elim) (fun h m L g x p gd l15 hm hh hw => by
          have gd2 := GD_u (hi1 := 0) (s := 0) pv.1.2.1 (KMc.tr p1.1 (EMc.km c2v e3)) gd (by omega) (by omega)
          have gu := hg gd2.1
          have g0 : g = 0 := by
            by_cases z : g = 0
            · exact z
            · have := p.2.2.2.2.1.mp z
              rw [gu] at this
              exact absurd this (by decide)
          have x0 := p.2.2.2.2.2 g0
          subst g0 x0
          have j := SG_app (u := w3) (a := szc v2) (n := k2) (q := s2) (z := h) (h := h + (1 + k2)) (m := m + knc u v2) (L := L) (g := 0) (x := 0) (by omega) (by omega) hm (by
            rcases hy with z | ⟨z, z2⟩
            · exact Or.inl ((hw 0 (by simp)).trans z)
            · exact Or.inr ⟨(hw 0 (by simp)).trans z, p.2.2.2.1 z2⟩) ⟨rfl, rfl⟩ (hw 1 (by simp))
          rw [show h + (1 + k2) - k2 = h + 1 by omega] at j
          exact j)
        exact PC_w p4 (Int.le_refl _) (by omega) (Nat.le_refl _) (fun _ y => y)
      · exact KMF.tr p1.1.1 (EMc.km c2v e3).1
      · intro z
        have := pv.1.2.1.2.2.2.2.1
        have := (KMc.tr p1.1 (EMc.km c2v e3)).2.2.2.1
        exact hg (by omega)
    have last : A v 21 n = 0 → m = hi → s2 = r → ∀ w (la2 : Prop), (la2 → la = 1) → PXS u w lv ps lo m q s2 o la2 1 → KMF v w → OK (fun w _ => PXS u w lv ps lo hi q r o (la = 1) 1) (hg_Cm_apply N S (M + 1) w (I ((la : Nat) : Int)) (I ((t : Nat) : Int)) (w.2.2.1 21 n)) := fun h0 z1 z2 w la2 hl pw kw => by
      subst z1 z2
      rw [I_A (k := 21), kw.A (j := 21) (by simp), h0]
      show OK _ (hb_Cm_apply_40 N S (hg_Cm_apply N S M) w (I ((la : Nat) : Int)) (I ((t : Nat) : Int)) (I 0))
      unfold hb_Cm_apply_40
      exact k_c (y := 0) rfl ⟨by decide, by decide⟩ ⟨by decide, by decide⟩ (fun _ => ok_some.mpr (PC_w pw (Int.le_refl _) (Nat.le_refl _) (Nat.le_refl _) (fun _ y => TY_mo y (Nat.le_refl _) (Nat.le_refl _) hl))) (fun z => absurd rfl z)
    have more : ∀ n2 : Nat, A v 21 n = ((n2 : Nat) : Int) → RWc v 0 (AGc v (XPc v f (o + 1) 3)) k n2 m hi c2 b s2 r → ∀ w, PXS u w lv ps lo m q s2 o False 1 → KMF v w → (F w 714 = 1000000000 → F u 712 = 0) → OK (fun w _ => PXS u w lv ps lo hi q r o (la = 1) 1) (hg_Cm_apply N S (M + 1) w (I ((la : Nat) : Int)) (I ((t : Nat) : Int)) (w.2.2.1 21 n)) := fun n2 e21 h3 w pw kw gw => by
      rw [I_A (k := 21), kw.A (j := 21) (by simp), e21]
      exact applyX_ok hR hu hf ht hla k (M + 1) n2 m hi c2 b s2 r w (RW_k (AG_k (XP_k (Nat.le_refl _) (Nat.le_refl _)) (XP_bd f (o + 1) 3)) AG_bd h3 (KN_m kw)) pw gw (by omega) (by omega) hb hh hQ (by omega)
    have h21 : A v2 21 n = A v 21 n := p1.1.1.A (j := 21) (by simp)
    unfold hb_Cm_apply_85
    rw [ck_t, I_A (k := 21), h21]
    rcases h with ⟨k0, h0, z1, -, z2⟩ | ⟨hk, n2, e21, h3⟩
    · rw [h0]
      rcases (by omega : la = 0 ∨ la = 1) with l | l
      · refine k_c (y := 0) rfl ⟨by omega, by omega⟩ ⟨by decide, by decide⟩ (fun _ => e87 27 False (Or.inl rfl) (fun w pw kw _ => last h0 z1 z2 w False (fun z => z.elim) pw kw)) (fun z => absurd z (by omega))
      · refine k_c (y := 0) rfl ⟨by omega, by omega⟩ ⟨by decide, by decide⟩ (fun z => absurd z (by omega)) (fun _ => ?_)
        refine k_c (y := 0) rfl ⟨by decide, by decide⟩ ⟨by decide, by decide⟩ (fun _ => e87 28 (la = 1) (Or.inr ⟨rfl, l⟩) (fun w pw kw _ => last h0 z1 z2 w (la = 1) (fun z => z) pw kw)) (fun z => absurd rfl z)
    · rw [e21]
      have g2 := (RW_hd AG_bd h3).1
      unfold HDc at g2
      refine k_c (y := 0) rfl ⟨by omega, by omega⟩ ⟨by decide, by decide⟩ (fun _ => e87 27 False (Or.inl rfl) (fun w pw kw gw => more n2 e21 h3 w pw kw gw)) (fun _ => ?_)
      refine k_c (y := 0) rfl ⟨by omega, by omega⟩ ⟨by decide, by decide⟩ (fun z => absurd z (by omega)) (fun _ => e87 27 False (Or.inl rfl) (fun w pw kw gw => more n2 e21 h3 w pw kw gw))
theorem apply_okc2 (hE : ExS N S o 0) (hR : RoS N S (o + 1)) (hN : 10000 ≤ N) {S2 : SF_Cm_fun} (h2 : S2.2.2.2.2.2.1 = hm_Cm_apply N S) : ApS N S2 o cl := by
  intro f u lv c Q ps n lo hi a b q r la hf hu hX e16 hb hh hQ hla
  rw [h2]
  cases f with
  | zero => exact hX.elim
  | succ f =>
  obtain ⟨hd, htk, ho, hX⟩ := hX
  unfold HDc at hd
  have hcs := CMP_c hu
  have cu := hu.1
  obtain ⟨x, mid, c1, s, k, m, e18, hx, hcn, e19, hr⟩ : ∃ x mid c s k m : Nat, A u 18 n = ((x : Nat) : Int) ∧ XPc u f o 0 x lo mid a c q s ∧ c < n ∧ A u 19 n = ((m : Nat) : Int) ∧ RWc u 0 (AGc u (XPc u f (o + 1) 3)) k m mid hi n b s r := by
    rcases hX with ⟨⟨l16, l6, -⟩, -⟩ | ⟨e, -⟩ | ⟨e, -⟩ | ⟨e, -⟩ | ⟨e, -⟩ | ⟨e, -⟩ | ⟨e, -⟩ | ⟨e, -⟩ | ⟨e, -⟩ | ⟨e, -⟩ | ⟨e, -⟩ | ⟨e, -, hx⟩ | ⟨e, -⟩ | ⟨e, -⟩ | ⟨e, -⟩ | ⟨e, -⟩ | ⟨e, -⟩
    all_goals first | exact hx | (exfalso; omega)
  obtain ⟨t, e17, ht1, ht2⟩ := htk
  have g1 := XP_bd f o 0 _ _ _ _ _ _ _ hx
  unfold HDc at g1
  have g2 := (RW_hd AG_bd hr).1
  unfold HDc at g2
  have g3 := RW_cnt AG_bd hr
  have i1 : inb (I ((n : Nat) : Int)) 8016 = true := (I_inb (by omega) (by omega)).mpr ⟨by omega, by omega⟩
  unfold hm_Cm_apply hb_Cm_apply_0
  rw [i1, tnI (n := n) rfl (by omega), ck_t, I_A (k := 17), e17]
  refine notIn_B cu ⟨by omega, by omega⟩ (fun v k1 f1 h1 => ?_)
  rw [ck_t, I_A (k := 18), k1.1.A (j := 18) (by simp), e18, ok_bnd]
  have hv : CMP v lv c ps Q o lo := CMP_k hu k1 (by rw [show F v 706 = F u 706 from congrArg _ (f1.1 706 (by simp))]; exact hu.2.2.2.2) (Nat.le_refl _)
  refine ok_mono (hE f v lv c Q ps x lo mid a c1 q s 0 (by omega) hv (XP_k (Nat.le_refl _) (Nat.le_refl _) _ _ _ _ _ _ _ hx (KN_m k1.1)) (by omega) (by omega) (by omega) (by omega)) (fun v2 _ p1 => ?_)
  have p2 : PXS u v2 lv ps lo mid q s o False 1 := PC_pre (hi1 := 0) (PC_fr k1 (FR.mo f1 (by simp) (by simp) (by simp) (by simp))) p1 (by omega) (by omega) (fun z => absurd z (by decide))
  rw [ck_t, I_A (k := 19), p2.1.1.A (j := 19) (by simp), e19]
  refine applyX_ok hR hu (by omega) (by omega) hla k N m mid hi n b s r v2 (RW_k (AG_k (XP_k (Nat.le_refl _) (Nat.le_refl _)) (XP_bd f (o + 1) 3)) AG_bd hr (KN_m p2.1.1)) p2 (fun z => ?_) (by omega) (by omega) hb hh hQ (by omega)
  rcases h1 with h1 | h1
  · exact h1
  · have := p1.1.2.2.2.1
    omega
end
