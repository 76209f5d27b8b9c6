set_option maxRecDepth 100000
section
variable {u v w : MS} {N lv t hi lo o q r s c h m g x d a b k n f Q z la cl : Nat} {ps : Nat → Nat} {S : SF_Cm_fun} {L : List Nat} {W : Int} {ce : Int} {th : Int}
theorem no_g (p : PREc u w lv lo o (la = 1) h m L g x) (u12 : F u 712 = 0) : g = 0 ∧ x = 0 := by
  have gg : g = 0 := by
    by_cases z : g = 0
    · exact z
    · have := p.2.2.2.2.1.mp z
      rw [u12] at this
      exact absurd this (by decide)
  exact ⟨gg, p.2.2.2.2.2 gg⟩
theorem ends_okc {K : MS → Unit → Prop} {fn : MS → Unit → Option (MS × Unit)} {lo2 d1 : Nat} {y : Int} (hN : 24002 ≤ N) (cu : CVI u lv) (pu : PCQ u v lv W t hi q s (TYX u v lv lo q s o False d1)) (h12 : F u 712 = 0 ∨ F v 714 < 1000000000) (pv : PCQ v w lv (WBc ps lo2 hi) 0 hi s r (PTYc v w lv lo2 s r o th (la = 1) ce)) (hce : RG ce) (hth : (th = 15 ∧ y = 37 ∧ d1 = 1) ∨ (th = 0 ∧ y = 38 ∧ d1 = 0)) (hq : q ≤ s) (hs : s ≤ r) (hlo : lo + 2 * d1 ≤ lo2) (hlh : lo2 ≤ hi) (kk : ∀ w2, PCQ u w2 lv (W + WBc ps lo2 hi + 1) t hi q r (TYX u w2 lv lo q r o (la = 1) 1) → OK K (fn w2 ())) : OK K (bnd (hm_Co_put N w (I y)) (fun u57 _ => bnd (hm_Co_arrive N u57 (I ce)) fn)) := by
  have cv := pu.1.2.1
  have cw := pv.1.2.1
  have h6 := pu.2.1
  have h6v := pv.2.1
  refine put_1 (x := y) cw.1 ⟨by omega, by omega⟩ (fun w1 e1 => ?_)
  have k1 := EMc.km cw e1
  have c1 := k1.2.1
  have e16 : F w1 706 = F w 706 := congrArg _ (e1.1.1 706 (by simp))
  rw [ok_bnd]
  refine ok_mono (arrive_ok (N := N) (u := w1) hce hN) (fun w2 _ hw => kk w2 ?_)
  have q1 := PC_seq (Y := TYX u v lv lo q s o False d1 ∧ OLQ v w s r ∧ PTYc v w lv lo2 s r o th (la = 1) ce) pu pv (Nat.le_refl _) hq hs (fun gd o1 o2 y1 y2 => ⟨y1, o2, y2⟩)
  have q2 := PC_seq (Y := (TYX u v lv lo q s o False d1 ∧ OLQ v w s r ∧ PTYc v w lv lo2 s r o th (la = 1) ce) ∧ szc w1 = szc w + 1 ∧ A w1 23 (szc w) = y ∧ OLQ w w1 r r ∧ GDc w1 hi r) q1 (PC_em (hi := hi) (q := r) cw e1) (Nat.le_refl _) (by omega) (Nat.le_refl _) (fun gd o1 o2 y1 y2 => ⟨y1, y2.1, y2.2 0 (by simp), o2, gd⟩)
  have uv := szc_le cu pu.1
  have chn : ∀ Hp : List Nat, CHNc w Hp ce → (∀ p, p ∈ Hp → szc v ≤ p ∧ p < szc w) → OLQ w w1 r r → CHNc w1 Hp ce := fun Hp z1 z2 z3 => CHNc_k (fun p hp => z3.1 p (by have h5 : p < (F w 441).toNat := (z2 p hp).2; have := cw.1; omega)) z1
  have e41 : A w2 41 lv = A w1 41 lv := by show (w2.2.2.1 41 lv).toInt = _; rw [hw.1.2.2.1 41 (by simp)]; rfl
  have e6w : F w2 706 = F w1 706 := congrArg _ (hw.1.1 706 (by simp))
  refine PC_w (PC_arr (Y1 := TYX u w2 lv lo q r o (la = 1) 1) q2 hw.1 (fun gv y j hj => ?_) (fun gw gv y2 => ?_)) (by simp) (by omega) (Nat.le_refl _) (fun _ z => z)
  · obtain ⟨⟨-, -, -, Hp, ch, hp, -⟩, -, -, o3, -⟩ := y
    refine (hw.2 Hp (chn Hp ch hp o3)).2 j (fun hj2 => ?_)
    have h5 := (hp j hj2).1
    have : (F u 441).toNat ≤ szc v := uv
    omega
  · obtain ⟨⟨tX, o2, e6, Hp, ch, hp, tP⟩, s3, w3, o3, gd⟩ := y2
    have ar := hw.2 Hp (chn Hp ch hp o3)
    have l15 := gd.2.2.2.1
    intro h m L g x p
    have u12 : F u 712 = 0 := by
      rcases h12 with h12 | h12
      · exact h12
      · have := pv.1.2.2.2.1
        have := k1.2.2.2.1
        have := gd.1
        omega
    obtain ⟨rfl, rfl⟩ := no_g p u12
    refine ⟨fun z => absurd rfl z, ?_⟩
    obtain ⟨p1, ⟨p2, p3⟩, p4, p5, -⟩ := p
    have a41a := pv.1.2.2.2.2.2.2.2.2
    have a41b := k1.2.2.2.2.2.2.2.2
    have a40 := pu.1.2.2.2.2.2.2.1 lv (Nat.le_refl _)
    have kn : ((knc u v : Nat) : Int) = F v 706 - F u 706 := by show (((F v 706 - F u 706).toNat : Nat) : Int) = _; omega
    have c8 := cw.2.2.2.2.2.2.2.2
    have a40w := pv.1.2.2.2.2.2.2.1 lv (Nat.le_refl _)
    have hm40 : m + knc u v ≤ 40 := by omega
    obtain ⟨-, i1⟩ := tX h m L 0 0 ⟨p1, ⟨p2, by omega⟩, p4, fun z => z.elim, ⟨fun z => absurd rfl z, fun z => by rw [u12] at z; exact absurd z (by decide)⟩, fun _ => rfl⟩
    have dd : ddc th = d1 := by
      rcases hth with ⟨z1, -, z3⟩ | ⟨z1, -, z3⟩
      · rw [z3]; unfold ddc; rw [if_pos z1]
      · rw [z3]; unfold ddc; rw [if_neg (by omega)]
    have i2 := tP h (h + d1) (m + knc u v) L 0 ⟨by rw [dd]; exact Nat.le_refl _, by omega, ⟨by rw [a40]; omega, by rw [a40]; omega⟩, p4, p5, fun z => by omega, fun _ => rfl⟩
    rw [dd, show h + d1 - d1 + 1 = h + 1 by omega] at i2
    have i3 : SGc w1 (szc w) (szc w1) r r [] h (h + d1) (m + knc u v) L 0 0 none := by
      rw [s3]
      rcases hth with ⟨-, z2, z3⟩ | ⟨-, z2, z3⟩
      · exact SG_noca (by omega) (by omega) hm40 (w3.trans z2) (by omega)
      · exact SG_nocl (by omega) (by omega) hm40 (Or.inr (w3.trans z2))
    have j1 := SG_kw cv i1 pv.1.1 o2 (Nat.le_refl _) (Or.inl (Nat.le_refl _))
    have j12 := SG_seq j1 i2 (by omega) (fun z => absurd rfl z)
    have j12' := SG_kw cw j12 k1.1 o3 (Nat.le_refl _) (Or.inl (Nat.le_refl _))
    have j13 := SG_seq j12' i3 (by omega) (fun z => absurd rfl z)
    rw [List.nil_append] at j13
    have vw := szc_le cv pv.1
    have ek : knc u w2 = knc u v := by show (F w2 706 - F u 706).toNat = (F v 706 - F u 706).toNat; rw [e6w, e16, e6]
    rw [ek]
    refine SG_arc (lv := lv) (H2 := []) (Hp := Hp) c1 hw.1 ar j13 (by omega) (Or.inl rfl) (fun p t hp => ?_) (fun p hp => ⟨_, List.mem_map.mpr ⟨p, hp, rfl⟩⟩) (fun p t t2 _ hp => by simp at hp)
    obtain ⟨p2, hp2, h5⟩ := List.mem_map.mp hp
    injection h5 with h6 h7
    exact ⟨h7.symm, h6 ▸ hp2⟩
theorem funOf_okc (hu : CMP u lv c ps Q o lo) (hn : n ≤ 8000) (htk : TKc u n lo hi) (hhi : hi = lo + 4) (hh : hi ≤ c) (hN : 1000 ≤ N) : OK (fun w _ => PXS u w lv ps lo hi q q o (la = 1) 1) (hm_Cm_funOf N u (I ((n : Nat) : Int))) := by
  have cu := hu.1
  have hcs := CMP_c hu
  obtain ⟨tk, e17, ht1, ht2⟩ := htk
  have i1 : inb (I ((n : Nat) : Int)) 8016 = true := (I_inb (by omega) (by omega)).mpr ⟨by omega, by omega⟩
  have w0 : 12 * ((hi - lo : Nat) : Int) ≤ WBc ps lo hi := WB_0
  have e48 : ∀ (v : MS) (y : Int), KMc u v lv → FR [714] [] [42] [] u v → RG y → (F v 714 = 1000000000 → ∃ fn : Nat, y = ((fn : Nat) : Int) ∧ ((fn : Nat) : Int) < F u 442) → OK (fun w _ => PXS u w lv ps lo hi q q o (la = 1) 1) (hb_Cm_funOf_48 N () v (I y)) := fun v y k1 f1 hy hf => by
    unfold hb_Cm_funOf_48
    refine put_1 (x := 7) k1.2.1.1 ⟨by decide, by decide⟩ (fun w1 e1 => put_B k1.2.1.1.1 e1 hy (fun w2 e2 => ok_some.mpr ?_))
    refine PC_pre (hi1 := 0) (PC_fr k1 f1) (PC_one k1.2.1 e2 (by simp; omega) (fun h m L g x p gd l15 hm hh hw => ?_)) (by omega) (Nat.le_refl _) (fun z => z)
    have k2 := EMc.km k1.2.1 e2
    obtain ⟨fn, rfl, hf2⟩ := hf (GD_u (hi1 := 0) (s := 0) k1.2.1 k2 gd (by omega) (by omega)).1
    exact SG_fof (Nat.le_refl _) (by omega) hm (hw 0 (by simp)) (hw 1 (by simp)) (by rw [(KMc.tr k1 k2).1.F (by simp)]; exact hf2)
  unfold hm_Cm_funOf hb_Cm_funOf_0
  rw [i1, ck_t, ck_t, tnI (n := n) rfl (by omega), I_A (k := 18), I_A (k := 19), ok_bnd]
  refine ok_mono (seekF_ok (N := N) hu.2.1.2.2.1 (A_r _ _ _) (A_r _ _ _) hN) (fun v r1 h1 => ?_)
  obtain ⟨rfl, h1⟩ := h1
  rcases h1 with rfl | ⟨fn, rfl, hf1, -⟩
  · refine k_c (y := -1) rfl ⟨by decide, by decide⟩ ⟨by decide, by decide⟩ (fun _ => ?_) (fun z => absurd rfl z)
    rw [ck_t, I_A (k := 17), e17, lit1q, I_add]
    exact fault_B (y := 6) cu ⟨by omega, by omega⟩ ⟨by decide, by decide⟩ (fun w k2 f2 h9 => e48 w (-1) k2 (FR.mo f2 (by simp) (by simp) (by simp) (by simp)) ⟨by decide, by decide⟩ (fun z => by omega))
  · have := hu.2.1.2.2.1
    exact k_c (y := -1) rfl ⟨by omega, by omega⟩ ⟨by decide, by decide⟩ (fun z => absurd z (by omega)) (fun _ => e48 v _ (KMc.rf cu) FR.rf ⟨by omega, by omega⟩ (fun _ => ⟨fn, rfl, hf1⟩))
end
