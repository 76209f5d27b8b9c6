set_option maxRecDepth 100000
section
variable {u v w : MS} {N lv t hi hi2 lo lo2 o o2 q r s c h m g x d a b k n f Q cl : Nat} {ps : Nat → Nat} {S : SF_Cm_fun} {la : Prop}
theorem call_okc2 (hR : RoS N S (o + 1)) (hN : 200010 ≤ N) {S2 : SF_Cm_fun} (h2 : S2.2.2.2.2.2.2.1 = hm_Cm_call N S) : CaS N S2 o cl := by
  intro f u lv c Q ps n lo hi a b q r la hf hu hX e16 hb hh hQ hla
  rw [h2]
  cases f with
  | zero => exact hX.elim
  | succ f =>
  obtain ⟨hd, htk, ho, hX⟩ := hX
  unfold HDc at hd
  have hcs := CMP_c hu
  have cu := hu.1
  obtain ⟨e17, k, m, a2, c1, e19, e20, hk, ha2, hr, hcn⟩ : A u 17 n = ((lo : Nat) : Int) ∧ ∃ k m a2 c : Nat, A u 19 n = ((m : Nat) : Int) ∧ A u 20 n = ((k : Nat) : Int) ∧ k ≤ 6 ∧ a ≤ a2 ∧ ORc u 1 (XPc u f (o + 1) 3) k m (lo + 2) (hi - 1) a2 c q r ∧ c < n := by
    rcases hX with ⟨⟨l16, l6, -⟩, -⟩ | ⟨e, -⟩ | ⟨e, -⟩ | ⟨e, -⟩ | ⟨e, -⟩ | ⟨e, -⟩ | ⟨e, -⟩ | ⟨e, -⟩ | ⟨e, -⟩ | ⟨e, -⟩ | ⟨e, hx⟩ | ⟨e, -⟩ | ⟨e, -⟩ | ⟨e, -⟩ | ⟨e, -⟩ | ⟨e, -⟩ | ⟨e, -⟩
    all_goals first | exact hx | (exfalso; omega)
  have g1 := OR_hd (XP_bd f (o + 1) 3) hr
  have i1 : inb (I ((n : Nat) : Int)) 8016 = true := (I_inb (by omega) (by omega)).mpr ⟨by omega, by omega⟩
  have i2 : inb (I ((lo : Nat) : Int)) 4002 = true := (I_inb (by omega) (by omega)).mpr ⟨by omega, by omega⟩
  have wb := WB_1 hcs.1 (lo := lo) (lo2 := lo + 2) (hi2 := hi - 1) (hi := hi) (by omega) (by omega) (by omega) hh
  have e96 : ∀ (v : MS) (y fv : Int), KMc u v lv → FR [714] [] [42] [] u v → RG fv → ((y = -1 ∧ (F v 714 = 1000000000 → F u 712 = 0 ∧ ∃ fn : Nat, fv = ((fn : Nat) : Int) ∧ ((fn : Nat) : Int) < F u 442 ∧ A u 25 fn = ((k : Nat) : Int))) ∨ ∃ d : Nat, y = ((d : Nat) : Int) ∧ ((d = 29 ∧ k = 2) ∨ (d < 29 ∧ tkc ((d : Nat) : Int) = k))) → OK (fun w _ => PXS u w lv ps lo hi q r o (la = 1) 1) (hb_Cm_call_96 N S () v (I ((n : Nat) : Int)) (I ((la : Nat) : Int)) (I ((lo : Nat) : Int)) (I ((k : Nat) : Int)) (I y) (I fv)) := fun v y fv k1 f1 hfv hy => by
    unfold hb_Cm_call_96
    rw [i1, ck_t, tnI (n := n) rfl (by omega), I_A (k := 19), k1.1.A (j := 19) (by simp), e19, ok_bnd]
    have hv : CMP v lv c ps Q (o + 1) (lo + 2) := CMP_k hu k1 (by rw [show F v 706 = F u 706 from congrArg _ (f1.1 706 (by simp))]; have := hu.2.2.2.2; omega) (by omega)
    refine ok_mono (hR f k v lv c Q ps m (lo + 2) (hi - 1) a2 c1 q r (by omega) hv (OR_k (XP_k (Nat.le_refl _) (Nat.le_refl _)) (XP_bd f (o + 1) 3) hr (KN_m k1.1)) (by omega) (by omega) hQ) (fun v2 _ p1 => ?_)
    have hdn : ∀ (w : MS) (l : List Int), EMc v2 w l → l.length ≤ 4 → (∀ h m L g x, PREc v w lv (lo + 2) (o + 1) (la = 1) h m L g x → GDc w hi r → hi ≤ 1500 → m + knc v v2 ≤ 40 → 2 * h ≤ (lo + 2) + 16 → (∀ k, k < l.length → A w 23 (szc v2 + k) = l.getD k 0) → SGc w (szc v2) (szc v2 + l.length) r r [] h (h + k) (m + knc v v2) L g x (some (h + 1, m + knc v v2, L, g, x))) → PXS u w lv ps lo hi q r o (la = 1) 1 := fun w l e hl hI => by
      have p2 := PC_tail (hi := hi) (W := WBc ps lo hi) (la := la = 1) (d2 := 1) p1 e (by omega) (by omega) (by omega) (fun z => z.elim) hI
      have p3 := PC_pre (hi1 := 0) (PC_fr k1 f1) p2 (by omega) (by omega) (fun z => z)
      exact PC_w p3 (Int.le_refl _) (by omega) (Nat.le_refl _) (fun _ y => TY_mo y (by omega) (by omega) (fun z => z))
    have c2 := p1.1.2.1
    rcases hy with ⟨rfl, hy⟩ | ⟨d, rfl, hd⟩
    · refine k_c (y := -1) rfl ⟨by decide, by decide⟩ ⟨by decide, by decide⟩ (fun _ => ?_) (fun z => absurd rfl z)
      have e198 : ∀ y : Int, (y = 25 ∨ (y = 26 ∧ la = 1)) → OK (fun w _ => PXS u w lv ps lo hi q r o (la = 1) 1) (hb_Cm_call_198 N S () v2 (I ((lo : Nat) : Int)) (I ((k : Nat) : Int)) (I fv) (I y)) := fun y hy2 => by
        unfold hb_Cm_call_198
        refine put_1 (x := y) c2.1 ⟨by omega, by omega⟩ (fun w1 e1 => ?_)
        refine put_B (x := fv) c2.1.1 e1 hfv (fun w2 e2 => ?_)
        refine put_B (x := ((k : Nat) : Int)) c2.1.1 e2 ⟨by omega, by omega⟩ (fun w3 e3 => ?_)
        rw [i2, ck_t, I_A (k := 8)]
        refine put_B c2.1.1 e3 (A_r _ _ _) (fun w4 e4 => ok_some.mpr (hdn w4 _ e4 (by simp) (fun h m L g x p gd l15 hm hh2 hw => ?_)))
        have k24 := KMc.tr p1.1 (EMc.km c2 e4)
        obtain ⟨gu, fn, rfl, hf1, hf2⟩ := hy (GD_u k1.2.1 k24 gd (Nat.le_refl _) (Nat.le_refl _)).1
        have g0 : g = 0 := by
          by_cases z : g = 0
          · exact z
          · have := p.2.2.2.2.1.mp z
            rw [k1.2.2.2.2.2.1.1, gu] at this
            exact absurd this (by decide)
        have x0 := p.2.2.2.2.2 g0
        subst g0 x0
        have k0 := KMc.tr k1 k24
        have j := SG_call (u := w4) (a := szc v2) (n := k) (f := fn) (q := r) (z := h) (h := h + k) (m := m + knc v v2) (L := L) (g := 0) (x := 0) (Nat.le_refl _) (by omega) hm (by
          rcases hy2 with z | ⟨z, z2⟩
          · exact Or.inl ((hw 0 (by simp)).trans z)
          · exact Or.inr ⟨(hw 0 (by simp)).trans z, p.2.2.2.1 z2⟩) ⟨rfl, rfl⟩ (hw 1 (by simp)) (by rw [k0.1.F (by simp)]; exact hf1) (hw 2 (by simp)) (by rw [k0.1.A (by simp)]; exact hf2)
        rw [show h + k - k = h by omega] at j
        exact j
      rcases (by omega : la = 0 ∨ la = 1) with rfl | rfl
      · refine k_c (y := 0) rfl ⟨by decide, by decide⟩ ⟨by decide, by decide⟩ (fun _ => e198 25 (Or.inl rfl)) (fun z => absurd rfl z)
      · refine k_c (y := 0) rfl ⟨by decide, by decide⟩ ⟨by decide, by decide⟩ (fun z => absurd z (by decide)) (fun _ => e198 26 (Or.inr ⟨rfl, rfl⟩))
    · have e170 : ∀ y : Int, ((y = 39 ∧ d < 29) ∨ (y = 40 ∧ (d = 2 ∨ d = 3 ∨ d = 4 ∨ d = 29 ∨ d = 15))) → OK (fun w _ => PXS u w lv ps lo hi q r o (la = 1) 1) (hb_Cm_call_170 N S () v2 (I ((d : Nat) : Int)) (I y)) := fun y hy => by
        unfold hb_Cm_call_170
        refine put_1 (x := y) c2.1 ⟨by omega, by omega⟩ (fun w1 e1 => ?_)
        refine put_B (x := ((d : Nat) : Int)) c2.1.1 e1 ⟨by omega, by omega⟩ (fun w2 e2 => ok_some.mpr (hdn w2 _ e2 (by simp) (fun h m L g x p gd l15 hm hh2 hw => ?_)))
        rcases hy with ⟨hy, h29⟩ | ⟨hy, h5⟩
        · have hk2 : tkc ((d : Nat) : Int) = k := by
            rcases hd with ⟨z, -⟩ | ⟨-, z⟩
            · omega
            · exact z
          have j := SG_pre (u := w2) (a := szc v2) (q := r) (z := h) (h := h + k) (m := m + knc v v2) (L := L) (g := g) (x := x) (y := ((d : Nat) : Int)) (by omega) (by omega) hm ((hw 0 (by simp)).trans hy) (hw 1 (by simp)) (by omega)
          rw [hk2, show h + k - k = h by omega] at j
          exact j
        · have hk2 : (if ((d : Nat) : Int) = 29 then 2 else 1) = k := by
            rcases h5 with rfl | rfl | rfl | rfl | rfl
            · rcases hd with ⟨z, -⟩ | ⟨-, z⟩
              · omega
              · rw [← z]; decide
            · rcases hd with ⟨z, -⟩ | ⟨-, z⟩
              · omega
              · rw [← z]; decide
            · rcases hd with ⟨z, -⟩ | ⟨-, z⟩
              · omega
              · rw [← z]; decide
            · rcases hd with ⟨-, z⟩ | ⟨z, -⟩
              · rw [z]; decide
              · omega
            · rcases hd with ⟨z, -⟩ | ⟨-, z⟩
              · omega
              · rw [← z]; decide
          have j := SG_tow (u := w2) (a := szc v2) (q := r) (z := h) (h := h + k) (m := m + knc v v2) (L := L) (g := g) (x := x) (y := ((d : Nat) : Int)) (by omega) (by omega) hm ((hw 0 (by simp)).trans hy) (hw 1 (by simp)) (by omega)
          rw [hk2, show h + k - k = h by omega] at j
          exact j
      have rd : RG ((d : Nat) : Int) := ⟨by omega, by omega⟩
      refine k_c (y := -1) rfl rd ⟨by decide, by decide⟩ (fun z => absurd z (by omega)) (fun _ => ?_)
      unfold hb_Cm_call_147 hb_Cm_call_152
      refine k_c (y := 2) rfl rd ⟨by decide, by decide⟩ (fun z => e170 40 (Or.inr ⟨rfl, by omega⟩)) (fun z1 => ?_)
      refine k_c (y := 3) rfl rd ⟨by decide, by decide⟩ (fun z => e170 40 (Or.inr ⟨rfl, by omega⟩)) (fun z2 => ?_)
      refine k_c (y := 4) rfl rd ⟨by decide, by decide⟩ (fun z => e170 40 (Or.inr ⟨rfl, by omega⟩)) (fun z3 => ?_)
      refine k_c (y := 29) rfl rd ⟨by decide, by decide⟩ (fun z => e170 40 (Or.inr ⟨rfl, by omega⟩)) (fun z4 => ?_)
      refine k_c (y := 15) rfl rd ⟨by decide, by decide⟩ (fun z => e170 40 (Or.inr ⟨rfl, by omega⟩)) (fun z5 => e170 39 (Or.inl ⟨rfl, by omega⟩))
  have e91 : ∀ (v : MS) (y fv : Int), KMc u v lv → FR [714] [] [42] [] u v → RG fv → ((y = -1 ∧ (F v 714 = 1000000000 → ∃ fn : Nat, fv = ((fn : Nat) : Int) ∧ ((fn : Nat) : Int) < F u 442 ∧ A u 25 fn = ((k : Nat) : Int))) ∨ ∃ d : Nat, y = ((d : Nat) : Int) ∧ ((d = 29 ∧ k = 2) ∨ (d < 29 ∧ tkc ((d : Nat) : Int) = k))) → OK (fun w _ => PXS u w lv ps lo hi q r o (la = 1) 1) (hb_Cm_call_91 N S () v (I ((n : Nat) : Int)) (I ((la : Nat) : Int)) (I ((lo : Nat) : Int)) (I ((k : Nat) : Int)) (I y) (I fv)) := fun v y fv k1 f1 hfv hy => by
    unfold hb_Cm_call_91
    refine notIn_B k1.2.1 ⟨by omega, by omega⟩ (fun v2 k2 f2 h2 => e96 v2 y fv (KMc.tr k1 k2) (FR.tr f1 (FR.mo f2 (by simp) (by simp) (by simp) (by simp))) hfv ?_)
    rcases hy with ⟨hy1, hy2⟩ | hy
    · refine Or.inl ⟨hy1, fun z => ⟨?_, hy2 ?_⟩⟩
      · rcases h2 with h2 | h2
        · rw [← k1.2.2.2.2.2.1.1]; exact h2
        · omega
      · have := k1.2.1.2.2.2.2.1
        have := k2.2.2.2.1
        omega
    · exact Or.inr hy
  have e77 : ∀ (v : MS) (y fv : Int), KMc u v lv → FR [714] [] [42] [] u v → RG fv → RG y → ((y = -1 ∧ (F v 714 = 1000000000 → ∃ fn : Nat, fv = ((fn : Nat) : Int) ∧ ((fn : Nat) : Int) < F u 442 ∧ A u 25 fn = ((k : Nat) : Int))) ∨ ∃ d : Nat, y = ((d : Nat) : Int) ∧ ((d = 29 ∧ k = 2) ∨ (d < 29 ∧ tkc ((d : Nat) : Int) = k))) → OK (fun w _ => PXS u w lv ps lo hi q r o (la = 1) 1) (hb_Cm_call_77 N S () v (I ((n : Nat) : Int)) (I ((la : Nat) : Int)) (I ((lo : Nat) : Int)) (I ((k : Nat) : Int)) (I y) (I fv)) := fun v y fv k1 f1 hfv hyr hy => by
    unfold hb_Cm_call_77
    rw [show (17 : Int32) = I 17 from rfl, show (28 : Int32) = I 28 from rfl]
    refine k_lt hyr ⟨by decide, by decide⟩ (fun _ => e91 v y fv k1 f1 hfv hy) (fun z => k_le hyr ⟨by decide, by decide⟩ (fun _ => e96 v y fv k1 f1 hfv ?_) (fun _ => e91 v y fv k1 f1 hfv hy))
    rcases hy with ⟨hy1, -⟩ | hy
    · omega
    · exact Or.inr hy
  unfold hm_Cm_call hb_Cm_call_0
  rw [i1, tnI (n := n) rfl (by omega), ck_t, ck_t, ck_t, I_A (k := 18), I_A (k := 20), I_A (k := 17), e17, e20, ok_bnd]
  refine ok_mono (preOf_ok (N := N) hu.2.1.2.1.1 hu.2.1.2.1.2 (A_r _ _ _) hk hN) (fun v1 r1 h1 => ?_)
  obtain ⟨rfl, h1⟩ := h1
  rw [ck_t, I_A (k := 18), ok_bnd]
  refine ok_mono (seekF_ok (N := N) hu.2.1.2.2.1 (A_r _ _ _) ⟨by omega, by omega⟩ (by omega)) (fun v2 r2 h2 => ?_)
  obtain ⟨rfl, h2⟩ := h2
  have f0 : FR [714] [] [42] [] v2 v2 := FR.rf
  rcases h1 with rfl | ⟨d, rfl, hd⟩
  · refine k_c (y := -1) rfl ⟨by decide, by decide⟩ ⟨by decide, by decide⟩ (fun _ => ?_) (fun z => absurd rfl z)
    rcases h2 with rfl | ⟨fn, rfl, hf1, -, hf2⟩
    · refine k_c (y := -1) rfl ⟨by decide, by decide⟩ ⟨by decide, by decide⟩ (fun _ => ?_) (fun z => absurd rfl z)
      exact fault_B (x := ((lo : Nat) : Int)) (y := 6) cu ⟨by omega, by omega⟩ ⟨by decide, by decide⟩ (fun w k2 f2 h9 => e77 w (-1) (-1) k2 (FR.mo f2 (by simp) (by simp) (by simp) (by simp)) ⟨by decide, by decide⟩ ⟨by decide, by decide⟩ (Or.inl ⟨rfl, fun z => by omega⟩))
    · have := hu.2.1.2.2.1
      refine k_c (y := -1) rfl ⟨by omega, by omega⟩ ⟨by decide, by decide⟩ (fun z => absurd z (by omega)) (fun _ => e77 v2 (-1) _ (KMc.rf cu) f0 ⟨by omega, by omega⟩ ⟨by decide, by decide⟩ (Or.inl ⟨rfl, fun _ => ⟨fn, rfl, hf1, hf2⟩⟩))
  · have hfv : ∃ fv : Int, RG fv ∧ r2 = I fv := by
      rcases h2 with rfl | ⟨fn, rfl, hf1, -⟩
      · exact ⟨-1, ⟨by decide, by decide⟩, rfl⟩
      · have := hu.2.1.2.2.1
        exact ⟨_, ⟨by omega, by omega⟩, rfl⟩
    obtain ⟨fv, hfv, rfl⟩ := hfv
    refine k_c (y := -1) rfl ⟨by omega, by omega⟩ ⟨by decide, by decide⟩ (fun z => absurd z (by omega)) (fun _ => e77 v2 _ fv (KMc.rf cu) f0 hfv ⟨by omega, by omega⟩ (Or.inr ⟨d, rfl, hd⟩))
end
