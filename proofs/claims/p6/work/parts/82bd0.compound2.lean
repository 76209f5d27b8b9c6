set_option maxRecDepth 100000
section
variable {u v w : MS} {N lv t hi lo o q r s c h m g x d a b k n f Q z la cl : Nat} {ps : Nat → Nat} {S : SF_Cm_fun}
theorem compoundC_ok (hE : ExS N S (o + 1) 3) (hE1 : ExS N S (o + 1) 1) (hE2 : 3 ≤ cl → ExS N S o 2) (hB : BoS N S (o + 2)) (hP1 : PaS N S o 1) (hP0 : PaS N S o 0) (hR : ReS N S o cl) (hF : FuS N S o cl) (hN : 1000000000 ≤ N) {S2 : SF_Cm_fun} (h2 : S2.2.2.2.2.1 = hm_Cm_compound N S) : CoS N S2 o cl := by
  intro f u lv c Q ps n lo hi a b q r la hf hu hX0 hkd hb hh hQ hla
  rw [h2]
  have hX := hX0
  cases f with
  | zero => exact hX.elim
  | succ f =>
  obtain ⟨hd, htk, ho, hX⟩ := hX
  have htk0 := htk
  unfold HDc at hd
  have hcs := CMP_c hu
  have cu := hu.1
  obtain ⟨tk, e17, ht1, ht2⟩ := htk
  have i1 : inb (I ((n : Nat) : Int)) 8016 = true := (I_inb (by omega) (by omega)).mpr ⟨by omega, by omega⟩
  have w0 : 12 * ((hi - lo : Nat) : Int) ≤ WBc ps lo hi := WB_0
  have hu6 := hu.2.2.2.2
  have c40 := cu.2.2.2.2.2.2.2.1
  unfold hm_Cm_compound hb_Cm_compound_0
  rw [i1, ck_t, ck_t, ck_t, tnI (n := n) rfl (by omega), I_A (k := 16), I_A (k := 17), e17, I_F (k := 706)]
  have ng : ∀ {kd : Int} {fn : MS → Unit → Option (MS × Unit)}, A u 16 n = kd → kd ≠ 17 → kd ≠ 18 → RG kd → (∀ v, KMc u v lv → FR [714] [] [] [] u v → (F u 712 = 0 ∨ F v 714 < 1000000000) → CMP v lv c ps Q o lo → (F v 712 = 0 ∨ F v 714 < 1000000000) → F v 706 = F u 706 → OK (fun w _ => PXS v w lv ps lo hi q r o (la = 1) 1) (fn v ())) → OK (fun w _ => PXS u w lv ps lo hi q r o (la = 1) 1) (br (decide (I (A u 16 n) = 17)) (hb_Cm_compound_33 N S () u (I ((n : Nat) : Int))) (br (decide (I (A u 16 n) = 18)) (hb_Cm_compound_33 N S () u (I ((n : Nat) : Int))) (bnd (hm_Cm_notInGuard N u (I ((tk : Nat) : Int))) fn))) := fun {kd fn} hk h17 h18 hr kk => by
    rw [hk]
    refine k_c (y := 17) rfl hr ⟨by decide, by decide⟩ (fun z => absurd z h17) (fun _ => k_c (y := 18) rfl hr ⟨by decide, by decide⟩ (fun z => absurd z h18) (fun _ => ?_))
    refine notIn_B cu ⟨by omega, by omega⟩ (fun v k1 f1 hg => ?_)
    have e6 : F v 706 = F u 706 := congrArg _ (f1.1 706 (by simp))
    refine ok_mono (kk v k1 f1 hg (CMP_k hu k1 (by rw [e6]; exact hu6) (Nat.le_refl _)) ?_ e6) (fun w _ p => PC_pre (hi1 := 0) (PC_fr k1 (FR.mo f1 (by simp) (by simp) (by simp) (by simp))) p (by omega) (by omega) (fun z => z))
    rcases hg with z | z
    · exact Or.inl (by rw [k1.2.2.2.2.2.1.1]; exact z)
    · exact Or.inr z
  rcases hX with ⟨⟨l16, l6, -⟩, -⟩ | ⟨e16, -⟩ | ⟨e16, -⟩ | ⟨e16, -⟩ | ⟨e16, k, m, c1, e18, hx, hcn⟩ | ⟨e16, x, mid, c1, s, k, m, c2, e18, hx, e19, hrw, hcn⟩ | ⟨e16, k, m, c1, e19, hrw, hcn⟩ | ⟨e16, -⟩ | ⟨e16, -⟩ | ⟨e16, hhi, hqr⟩ | ⟨e16, -⟩ | ⟨e16, -⟩ | ⟨e16, hcl, m, c1, e18, hx, hcn⟩ | ⟨e16, hcl, m, c1, e18, hx, hcn⟩ | ⟨e16, hcl, x, y, mid, c1, c2, e18, hpa, e19, hx, hcn⟩ | ⟨e16, hcl, x, y, mid, c1, c2, s, e18, hx, e19, hy, hcn⟩ | ⟨e16, -⟩
  · exfalso; omega
  · exfalso; omega
  · exfalso; omega
  · exfalso; omega
  · 
    refine ng e16 (by decide) (by decide) ⟨by decide, by decide⟩ (fun v k1 f1 hg hv h12 e6 => ?_)
    rw [ck_t, I_A (k := 16), k1.1.A (j := 16) (by simp), e16]
    show OK _ (ck true (bnd (S.2.2.2.1 v (v.2.2.1 18 n) (I ((la : Nat) : Int))) (fun u42 _ => bnd (hm_Cm_forget N u42 (I (F u 706))) (fun u43 _ => hb_Cm_compound_455 N S () u43))))
    have gx := (RW_hd (XP_bd f (o + 2) 3) hx).1
    unfold HDc at gx
    rw [ck_t, I_A (k := 18), k1.1.A (j := 18) (by simp), e18, ok_bnd]
    refine ok_mono (hB f k v lv c Q ps m (lo + 1) (hi - 1) a c1 q r la (by omega) (CMP_m hv (by omega) (by omega)) (RW_k (XP_k (Nat.le_refl _) (Nat.le_refl _)) (XP_bd f (o + 2) 3) hx (KN_m k1.1)) (by omega) (by omega) hQ hla) (fun v1 _ p1 => ?_)
    have c1v := p1.1.2.1
    have p16 := p1.2.1
    have e40 := p1.1.2.2.2.2.2.2.1 lv (Nat.le_refl _)
    have e40v := k1.2.2.2.2.2.2.1 lv (Nat.le_refl _)
    refine forget_B c1v (by omega) (by omega) (fun w l k3 e36 f3 em3 hl3 => ok_some.mpr ?_)
    have wb := WB_1 hcs.1 (lo := lo) (lo2 := lo + 1) (hi2 := hi - 1) (hi := hi) (by omega) (by omega) (by omega) hh
    have p2 := PC_fgt (Y1 := TYX v w lv lo q r o (la = 1) 1) k3 e36 f3 em3 hl3 p1 (by omega) (by omega) (fun gw gv ol yb fg h m L g x p => ?_)
    · exact PC_w p2 (by omega) (by omega) (by omega) (fun _ z => z)
    · have v12 : F v 712 = 0 := by
        rcases h12 with z | z
        · exact z
        · have := p1.1.2.2.2.1
          have := gv.1
          omega
      obtain ⟨rfl, rfl⟩ := no_g p v12
      refine ⟨fun z => absurd rfl z, ?_⟩
      have l15 := gw.2.2.2.1
      have pl := p.1
      obtain ⟨-, i2⟩ := yb h m L 0 0 (PRE_mo (PRE_1 p k3) (by omega) (by omega) (fun z => z))
      have pb := PRE_b c1v p1.1 p16.1 (PRE_1 p k3)
      have kn : ((knc v v1 : Nat) : Int) = F v1 706 - F v 706 := by show (((F v1 706 - F v 706).toNat : Nat) : Int) = _; omega
      have i3 := fg h (h + 1) (m + knc v v1) L 0 0 (by omega) (by omega) pb.1 (by omega) (Or.inr rfl)
      have j1 := SG_kw c1v i2 k3.1 ol (Nat.le_refl _) (Or.inl (Nat.le_refl _))
      have j := SG_seq j1 i3 (by omega) (fun z => absurd rfl z)
      rw [List.append_nil, show m + knc v v1 - (F v1 706 - F u 706).toNat = m by omega] at j
      rw [show knc v w = 0 by show (F w 706 - F v 706).toNat = 0; omega]
      exact j
  · 
    refine ng e16 (by decide) (by decide) ⟨by decide, by decide⟩ (fun v k1 f1 hg hv h12 e6 => ?_)
    rw [ck_t, I_A (k := 16), k1.1.A (j := 16) (by simp), e16]
    show OK _ (ck true (bnd (S.2.2.2.2.2.2.2.2.2.2.1 v (v.2.2.1 18 n) 0) (fun u49 _ => ck true (bnd (S.2.2.1 u49 (u49.2.2.1 19 n) (-1) 15 (I ((la : Nat) : Int))) (fun u55 r55 => bnd (hm_Co_put N u55 37) (fun u57 _ => bnd (hm_Co_arrive N u57 r55) (fun u60 _ => hb_Cm_compound_455 N S () u60)))))))
    have gx := XP_bd f (o + 1) 3 _ _ _ _ _ _ _ hx
    have gr := (RW_hd CSP_bd hrw).1
    unfold HDc at gx gr
    rw [ck_t, I_A (k := 18), k1.1.A (j := 18) (by simp), e18, ok_bnd]
    refine ok_mono (hE f v lv c Q ps x (lo + 1) mid a c1 q s 0 (by omega) (CMP_m hv (by omega) (by omega)) (XP_k (Nat.le_refl _) (Nat.le_refl _) _ _ _ _ _ _ _ hx (KN_m k1.1)) (by omega) (by omega) (by omega) (by omega)) (fun v1 _ p1 => ?_)
    have kk1 := KMc.tr k1 p1.1
    have p16 := p1.2.1
    rw [ck_t, I_A (k := 19), kk1.1.A (j := 19) (by simp), e19, ok_bnd]
    have h121 : F v1 712 = 0 ∨ F v1 714 < 1000000000 := by
      rcases h12 with z | z
      · exact Or.inl (by rw [p1.1.2.2.2.2.2.1.1]; exact z)
      · have := p1.1.2.2.2.1
        exact Or.inr (by omega)
    have hpp := RW_mp (fun n lo hi a b q r => CSP_pp (n := n) (lo := lo) (hi := hi) (a := a) (b := b) (q := q) (r := r)) hrw
    have hv1 : CMP v1 lv c ps Q o (mid + 1) := CMP_k hv p1.1 (by have := hv.2.2.2.2; omega) (Nat.le_refl _)
    refine ok_mono (hP1 f k v1 lv c Q ps m (mid + 1) (hi - 1) c1 c2 s r la (-1) 15 (by omega) hv1 h121 (Or.inr ⟨(RW_hd CSP_bd hrw).2, RW_k (PP_k kk1.1) (PP_bd f o 1) hpp (KN_m kk1.1)⟩) (by omega) (by omega) hQ hla (Or.inl ⟨rfl, rfl, rfl⟩)) (fun v2 r2 hv2 => ?_)
    obtain ⟨ce, rfl, hce, p2⟩ := hv2
    have p1' : PCQ v v1 lv (WBc ps (lo + 1) mid) (mid - (lo + 1)) (hi - 1) q s (TYX v v1 lv (lo + 1) q s o False 1) := PC_w p1 (Int.le_refl _) (Nat.le_refl _) (by omega) (fun _ y => TY_mo y (Nat.le_refl _) (by omega) (fun z => absurd z (by decide)))
    have h12e : F v 712 = 0 ∨ F v1 714 < 1000000000 := by
      rcases h12 with z | z
      · exact Or.inl z
      · have := p1.1.2.2.2.1
        exact Or.inr (by omega)
    have wb := WB_2 hcs.1 (lo := lo + 1) (m := mid) (lo2 := mid + 1) (hi := hi - 1) (by omega) (by omega) (by omega) (by omega)
    have wb2 := WB_1 hcs.1 (lo := lo) (lo2 := lo + 1) (hi2 := hi - 1) (hi := hi) (by omega) (by omega) (by omega) hh
    refine ends_okc (y := 37) (N := N) (by omega) hv.1 p1' h12e p2 hce (Or.inl ⟨rfl, rfl, rfl⟩) (by omega) (by omega) (by omega) (by omega) (fun w pw => ok_some.mpr ?_)
    exact PC_w pw (by omega) (by omega) (by omega) (fun _ y => TY_mo y (by omega) (Nat.le_refl _) (fun z => z))
  · 
    refine ng e16 (by decide) (by decide) ⟨by decide, by decide⟩ (fun v k1 f1 hg hv h12 e6 => ?_)
    rw [ck_t, I_A (k := 16), k1.1.A (j := 16) (by simp), e16]
    show OK _ (ck true (bnd (S.2.2.1 v (v.2.2.1 19 n) (-1) 0 (I ((la : Nat) : Int))) (fun u67 r67 => bnd (hm_Co_put N u67 38) (fun u69 _ => bnd (hm_Co_arrive N u69 r67) (fun u72 _ => hb_Cm_compound_455 N S () u72)))))
    have gr := (RW_hd CHP_bd hrw).1
    unfold HDc at gr
    rw [ck_t, I_A (k := 19), k1.1.A (j := 19) (by simp), e19, ok_bnd]
    have hpp := RW_mp (fun n lo hi a b q r => CHP_pp (n := n) (lo := lo) (hi := hi) (a := a) (b := b) (q := q) (r := r)) hrw
    refine ok_mono (hP0 f k v lv c Q ps m (lo + 1) (hi - 1) a c1 q r la (-1) 0 (by omega) (CMP_m hv (by omega) (Nat.le_refl _)) h12 (Or.inr ⟨(RW_hd CHP_bd hrw).2, RW_k (PP_k k1.1) (PP_bd f o 0) hpp (KN_m k1.1)⟩) (by omega) (by omega) hQ hla (Or.inr (Or.inl ⟨rfl, rfl, rfl⟩))) (fun v2 r2 hv2 => ?_)
    obtain ⟨ce, rfl, hce, p2⟩ := hv2
    have p0 : PCQ v v lv 0 0 (hi - 1) q q (TYX v v lv (lo + 1) q q o False 0) := PC_w (PC_rf (hi := 0) (q := q) hv.1) (Int.le_refl _) (Nat.le_refl _) (by omega) (fun _ _ h m L g x p => ⟨fun _ => rfl, by
      rw [show knc v v = 0 by show (F v 706 - F v 706).toNat = 0; omega]
      exact SG_nl⟩)
    have wb2 := WB_1 hcs.1 (lo := lo) (lo2 := lo + 1) (hi2 := hi - 1) (hi := hi) (by omega) (by omega) (by omega) hh
    refine ends_okc (y := 38) (N := N) (by omega) hv.1 p0 h12 p2 hce (Or.inr ⟨rfl, rfl, rfl⟩) (by omega) (by omega) (by omega) (by omega) (fun w pw => ok_some.mpr ?_)
    exact PC_w pw (by omega) (by omega) (by omega) (fun _ y => TY_mo y (by omega) (Nat.le_refl _) (fun z => z))
  · 
    refine ng e16 (by decide) (by decide) ⟨by decide, by decide⟩ (fun v k1 f1 hg hv h12 e6 => ?_)
    rw [ck_t, I_A (k := 16), k1.1.A (j := 16) (by simp), e16]
    show OK _ (bnd (S.2.1 v (I ((n : Nat) : Int)) (I ((la : Nat) : Int))) (fun u74 _ => hb_Cm_compound_455 N S () u74))
    rw [ok_bnd]
    exact ok_mono (hR (f + 1) v lv c Q ps n lo hi a b q r la hf hv h12 (XP_k (Nat.le_refl _) (Nat.le_refl _) _ _ _ _ _ _ _ hX0 (KN_m k1.1)) (by rw [k1.1.A (by simp)]; exact e16) hb hh hQ hla) (fun w _ p => ok_some.mpr p)
  · 
    refine ng e16 (by decide) (by decide) ⟨by decide, by decide⟩ (fun v k1 f1 hg hv h12 e6 => ?_)
    rw [ck_t, I_A (k := 16), k1.1.A (j := 16) (by simp), e16]
    show OK _ (bnd (S.1 v (I ((n : Nat) : Int))) (fun u75 _ => hb_Cm_compound_455 N S () u75))
    rw [ok_bnd]
    exact ok_mono (hF (f + 1) v lv c Q ps n lo hi a b q r hf hv h12 (XP_k (Nat.le_refl _) (Nat.le_refl _) _ _ _ _ _ _ _ hX0 (KN_m k1.1)) (by rw [k1.1.A (by simp)]; exact e16) hb hh hQ) (fun w _ p => ok_some.mpr (PC_w p (Int.le_refl _) (Nat.le_refl _) (Nat.le_refl _) (fun _ y => TY_mo y (Nat.le_refl _) (Nat.le_refl _) (fun z => z.elim))))
  · 
    subst hqr
    refine ng e16 (by decide) (by decide) ⟨by decide, by decide⟩ (fun v k1 f1 hg hv h12 e6 => ?_)
    rw [ck_t, I_A (k := 16), k1.1.A (j := 16) (by simp), e16]
    show OK _ (bnd (hm_Cm_funOf N v (I ((n : Nat) : Int))) (fun u76 _ => hb_Cm_compound_455 N S () u76))
    rw [ok_bnd]
    exact ok_mono (funOf_okc (N := N) hv (by omega) (TK_k htk0 (KN_m (a := 0) (b := 8000) (n := 0) k1.1) (by omega)) hhi hh (by omega)) (fun w _ p => ok_some.mpr p)
  · exfalso
    omega
  · exfalso
    omega
  · 
    have gx := XP_bd f (o + 1) 1 _ _ _ _ _ _ _ hx
    unfold HDc at gx
    have e33 : OK (fun w _ => PXS u w lv ps lo hi q r o (la = 1) 1) (hb_Cm_compound_33 N S () u (I ((n : Nat) : Int))) := by
      unfold hb_Cm_compound_33 hb_Cm_compound_72
      rw [i1, ck_t, tnI (n := n) rfl (by omega), I_A (k := 18), e18, ok_bnd]
      refine ok_mono (hE1 f u lv c Q ps m (lo + 1) hi a c1 q r 0 (by omega) (CMP_m hu (by omega) (by omega)) hx (by omega) hh hQ (by omega)) (fun v _ p1 => ?_)
      have wb2 := WB_1 hcs.1 (lo := lo) (lo2 := lo + 1) (hi2 := hi) (hi := hi) (by omega) (by omega) (by omega) hh
      have e72 : ∀ y : Int, (y = 11 ∨ y = 12) → OK (fun w _ => PXS u w lv ps lo hi q r o (la = 1) 1) (bnd (hm_Co_put N v (I y)) (fun u1 _ => some (u1, ()))) := fun y hy => by
        refine put_1 (x := y) p1.1.2.1.1 ⟨by omega, by omega⟩ (fun w1 e1 => ok_some.mpr ?_)
        have p2 := PC_tail (hi := hi) (W := WBc ps lo hi) (la := la = 1) (d2 := 1) p1 e1 (by omega) (Nat.le_refl _) (by simp; omega) (fun z => absurd z (by decide)) (fun h m L g x p gd l15 hm hh hw => SG_neg (by omega) (by omega) hm (by
          have h0 : A w1 23 (szc v) = y := hw 0 (by simp)
          rw [h0]; exact hy) (by omega))
        exact PC_w p2 (Int.le_refl _) (by omega) (Nat.le_refl _) (fun _ y => TY_mo y (by omega) (by omega) (fun z => z))
      exact ok_ck.mpr ⟨rfl, ok_br.mpr ⟨fun _ => e72 12 (Or.inr rfl), fun _ => e72 11 (Or.inl rfl)⟩⟩
    rcases e16 with e16 | e16
    · rw [e16]
      exact ok_br.mpr ⟨fun _ => e33, fun z => absurd z (by decide)⟩
    · rw [e16]
      exact ok_br.mpr ⟨fun _ => e33, fun _ => ok_br.mpr ⟨fun _ => e33, fun z => absurd z (by decide)⟩⟩
  · 
    refine ng e16 (by decide) (by decide) ⟨by decide, by decide⟩ (fun v k1 f1 hg hv h12 e6 => ?_)
    rw [ck_t, I_A (k := 16), k1.1.A (j := 16) (by simp), e16]
    show OK _ (bnd (hm_Co_put N v 29) (fun u78 _ => bnd (hm_Co_hook N u78 0) (fun u81 r81 => ck true (bnd (S.2.2.2.2.2.2.2.2.2.2.1 u81 (u81.2.2.1 18 n) 0) (fun u88 _ => bnd (hm_Co_put N u88 30) (fun u90 _ => bnd (hm_Cm_forget N u90 (I (F u 706))) (fun u92 _ => bnd (hm_Co_arrive N u92 r81) (fun u94 _ => hb_Cm_compound_455 N S () u94))))))))
    have gx := XP_bd f (o + 1) 3 _ _ _ _ _ _ _ hx
    unfold HDc at gx
    have ho1 : o + 1 ≤ 25 := by
      cases f with
      | zero => exact hx.elim
      | succ f => exact hx.2.2.1
    have cv := hv.1
    refine put_1 (x := 29) cv.1 ⟨by decide, by decide⟩ (fun w1 e0 => hook_B (x := 0) cv.1.1 e0 ⟨by decide, by decide⟩ (fun v1 e1 => ?_))
    have kv1 := EMc.km cv e1
    have c1v := kv1.2.1
    have kk1 := KMc.tr k1 kv1
    have e16v : F v1 706 = F v 706 := congrArg _ (e1.1.1 706 (by simp))
    rw [ck_t, I_A (k := 18), kk1.1.A (j := 18) (by simp), e18, ok_bnd]
    have hv6 := hv.2.2.2.2
    refine ok_mono (hE f v1 lv c Q ps m (lo + 1) hi a c1 q r 0 (by omega) (CMP_k hv kv1 (by omega) (by omega)) (XP_k (Nat.le_refl _) (Nat.le_refl _) _ _ _ _ _ _ _ hx (KN_m kk1.1)) (by omega) hh hQ (by omega)) (fun v2 _ p2 => ?_)
    have c2v := p2.1.2.1
    have p26 := p2.2.1
    refine put_1 (x := 30) c2v.1 ⟨by decide, by decide⟩ (fun v3 e3 => ?_)
    have k3 := EMc.km c2v e3
    have c3v := k3.2.1
    have e36 : F v3 706 = F v2 706 := congrArg _ (e3.1.1 706 (by simp))
    have q1 := PC_seq (Y := (szc v1 = szc v + 2 ∧ A v2 23 (szc v) = 29 ∧ A v2 23 (szc v + 1) = 0) ∧ TYX v1 v2 lv (lo + 1) q r (o + 1) (0 = 1) 1) (PC_em (hi := hi) (q := q) cv e1) p2 (Nat.le_refl _) (Nat.le_refl _) (by omega) (fun gd o1 o2 y1 y2 => by
      have s3 : szc v1 = szc v + 2 := y1.1
      have cc1 := c1v.1
      have lt : ∀ j, j < 2 → A v2 23 (szc v + j) = A v1 23 (szc v + j) := fun j hj => o2.1 _ (by
        have h5 : (F v1 441).toNat = szc v + 2 := s3
        omega)
      exact ⟨⟨s3, (lt 0 (by omega)).trans (y1.2 0 (by simp)), (lt 1 (by omega)).trans (y1.2 1 (by simp))⟩, y2⟩)
    have q2 := PC_seq (Y := ((szc v1 = szc v + 2 ∧ A v2 23 (szc v) = 29 ∧ A v2 23 (szc v + 1) = 0) ∧ TYX v1 v2 lv (lo + 1) q r (o + 1) (0 = 1) 1) ∧ szc v3 = szc v2 + 1 ∧ A v3 23 (szc v2) = 30 ∧ OLQ v2 v3 r r) q1 (PC_em (hi := hi) (q := r) c2v e3) (Nat.le_refl _) (by omega) (Nat.le_refl _) (fun gd o1 o2 y1 y2 => ⟨y1, y2.1, y2.2 0 (by simp), o2⟩)
    have e40 := q2.1.2.2.2.2.2.2.1 lv (Nat.le_refl _)
    have e40v := k1.2.2.2.2.2.2.1 lv (Nat.le_refl _)
    refine forget_B c3v (by omega) (by omega) (fun v4 l k4 e46 f4 em4 hl4 => ?_)
    have q3 := PC_fgt (Y1 := (((szc v1 = szc v + 2 ∧ A v2 23 (szc v) = 29 ∧ A v2 23 (szc v + 1) = 0) ∧ TYX v1 v2 lv (lo + 1) q r (o + 1) (0 = 1) 1) ∧ szc v3 = szc v2 + 1 ∧ A v3 23 (szc v2) = 30 ∧ OLQ v2 v3 r r) ∧ OLQ v3 v4 r r ∧ (∀ z h m L g x, z ≤ h → h ≤ 1090 → m ≤ 40 → (F v3 706 - F u 706).toNat ≤ m → ((F v3 706 - F u 706).toNat = 0 ∨ g = 0) → SGc v4 (szc v3) (szc v4) r r [] z h m L g x (some (h, m - (F v3 706 - F u 706).toNat, L, g, x))) ∧ GDc v4 hi r) k4 e46 f4 em4 hl4 q2 (by omega) (by omega) (fun gw gv ol y fg => ⟨y, ol, fg, gw⟩)
    have c4v := k4.2.1
    have c1r := c1v.1
    have cvr := cv.1
    rw [ok_bnd]
    refine ok_mono (arrive_ok (N := N) (u := v4) (c := F v1 441 - 1) ⟨by omega, by omega⟩ (by omega)) (fun w _ hw => ok_some.mpr ?_)
    have l2 := szc_le c1v p2.1
    have l4 := szc_le c3v k4
    have e41 : A w 41 lv = A v4 41 lv := by show (w.2.2.1 41 lv).toInt = _; rw [hw.1.2.2.1 41 (by simp)]; rfl
    have e6w : F w 706 = F v4 706 := congrArg _ (hw.1.1 706 (by simp))
    have esw : szc w = szc v4 := by
      show (F w 441).toNat = (F v4 441).toNat
      rw [show F w 441 = F v4 441 from congrArg _ (hw.1.1 441 (by simp))]
    have chn : szc v1 = szc v + 2 → A v2 23 (szc v + 1) = 0 → OLQ v2 v3 r r → OLQ v3 v4 r r → GDc v4 hi r → CHNc v4 [szc v + 1] (F v1 441 - 1) := fun s1 z1 z2 z3 gd => by
      have h5 : (F v1 441).toNat = szc v + 2 := s1
      have h6 : szc v + 2 ≤ (F v2 441).toNat := by rw [← s1]; exact l2
      have t3 := k3.2.2.1
      have t4 := k4.2.2.1
      have g4 := gd.2.2.1
      refine ⟨by omega, ⟨by omega, by omega⟩, fun q hq => absurd hq (by simp), ?_⟩
      show A v4 23 (szc v + 1) = 0
      rw [z3.1 _ (by omega), z2.1 _ (by omega)]
      exact z1
    have wb2 := WB_1 hcs.1 (lo := lo) (lo2 := lo + 1) (hi2 := hi) (hi := hi) (by omega) (by omega) (by omega) hh
    have p9 := PC_arr (Y1 := TYX v w lv lo q r o (la = 1) 1) q3 hw.1 (fun gv y j hj => ?_) (fun gw gv y => ?_)
    · exact PC_w p9 (by simp; omega) (by omega) (Nat.le_refl _) (fun _ z => z)
    · obtain ⟨⟨⟨⟨s1, -, z1⟩, -⟩, -, -, o3⟩, o4, -, gd⟩ := y
      refine (hw.2 _ (chn s1 z1 o3 o4 gd)).2 j (fun hj2 => ?_)
      simp only [List.mem_singleton] at hj2
      have : j = (F v 441).toNat + 1 := hj2
      omega
    · obtain ⟨⟨⟨⟨s1, z0, z1⟩, tX⟩, s3, z3, o3⟩, o4, fg, gd⟩ := y
      have ar := hw.2 _ (chn s1 z1 o3 o4 gd)
      have cd : ∀ j, j ≠ szc v + 1 → A w 23 j = A v4 23 j := fun j hj => ar.2 j (by simp; exact hj)
      have l15 := gd.2.2.2.1
      intro h m L g x p
      have v12 : F v 712 = 0 := by
        rcases h12 with z | z
        · exact z
        · have := q3.1.2.2.2.1
          have := gd.1
          omega
      obtain ⟨rfl, rfl⟩ := no_g p v12
      refine ⟨fun z => absurd rfl z, ?_⟩
      obtain ⟨pp1, ⟨pp2, pp3⟩, pp4, pp5, -⟩ := p
      have a41a := k3.2.2.2.2.2.2.2.2
      have a41b := k4.2.2.2.2.2.2.2.2
      have a40 := kv1.2.2.2.2.2.2.1 lv (Nat.le_refl _)
      have c28 := c2v.2.2.2.2.2.2.2.2
      have a40b := p2.1.2.2.2.2.2.2.1 lv (Nat.le_refl _)
      have kn : ((knc v1 v2 : Nat) : Int) = F v2 706 - F v1 706 := by show (((F v2 706 - F v1 706).toNat : Nat) : Int) = _; omega
      have hm40 : m + knc v1 v2 ≤ 40 := by omega
      obtain ⟨-, i1⟩ := tX h m (szc w :: L) 0 0 ⟨by omega, ⟨by rw [a40, e16v]; exact pp2, by rw [a40, e16v]; omega⟩, by simp; omega, fun z => absurd z (by decide), ⟨fun z => absurd rfl z, fun z => by rw [kv1.2.2.2.2.2.1.1, v12] at z; exact absurd z (by decide)⟩, fun _ => rfl⟩
      have i3 := fg h (h + 1) (m + knc v1 v2) L 0 0 (by omega) (by omega) hm40 (by omega) (Or.inr rfl)
      rw [show m + knc v1 v2 - (F v3 706 - F u 706).toNat = m by omega, s3] at i3
      have j1 := SG_kw c3v (SG_kw c2v i1 k3.1 o3 (Nat.le_refl _) (Or.inl (Nat.le_refl _))) k4.1 o4 (szc_le c2v k3) (Or.inl (Nat.le_refl _))
      have j2 : SGc w (szc v1) (szc v2) q r [] h h m (szc w :: L) 0 0 (some (h + 1, m + knc v1 v2, szc w :: L, 0, 0)) := SG_k j1 (fun j j3 _ _ => cd j (by omega)) (TBL_23 hw.1)
      have j3 := SG_k i3 (fun j j4 _ _ => cd j (by omega)) (TBL_23 (v := v4) (w := w) (q := r) (r := r) hw.1)
      rw [← esw] at j3
      rw [s1] at j2
      have c2r := c2v.1
      have c3r := c3v.1
      have t3 := k3.2.2.1
      have h6 : szc v + 2 ≤ szc v2 := by rw [← s1]; exact l2
      have lt2 : ∀ j, j < szc v2 → j ≠ szc v + 1 → A w 23 j = A v2 23 j := fun j hj h1 => by
        have h7 : j < (F v2 441).toNat := hj
        rw [cd j h1, o4.1 j (by omega), o3.1 j (by omega)]
      have h8 : szc v2 < (F v3 441).toNat := by
        have : (F v3 441).toNat = szc v2 + 1 := s3
        omega
      have j4 := SG_cat (u := w) (a := szc v) (b := szc v2) (c := szc w) (k := knc v1 v2) (z := h) (h := h) (m := m) (L := L) (Nat.le_refl _) (by omega) (by omega) (by omega) (by rw [lt2 _ (by omega) (by omega)]; exact z0) (by
        rw [ar.1 (szc v + 1) (by simp), esw]
        have := c4v.1
        show F v4 441 = (((F v4 441).toNat : Nat) : Int)
        omega) j2 hm40 (by omega) (by rw [cd _ (by omega), o4.1 _ (by omega)]; exact z3) j3
      rw [show knc v w = 0 by show (F w 706 - F v 706).toNat = 0; omega]
      exact j4
  · 
    refine ng e16 (by decide) (by decide) ⟨by decide, by decide⟩ (fun v k1 f1 hg hv h12 e6 => ?_)
    rw [ck_t, I_A (k := 16), k1.1.A (j := 16) (by simp), e16]
    show OK _ (ck true (bnd (S.2.2.2.2.2.2.2.2.2.2.1 v (v.2.2.1 19 n) 0) (fun u101 _ => bnd (hm_Co_put N u101 20) (fun u103 _ => ck true (bnd (hr_Cm_pattern N u103 (u103.2.2.1 18 n)) (fun u110 _ => bnd (hm_Co_put N u110 8) (fun u112 _ => hb_Cm_compound_455 N S () u112)))))))
    have gx := XP_bd f (o + 1) 3 _ _ _ _ _ _ _ hx
    have gp := PA_bd f _ _ _ _ _ _ _ hpa
    unfold HDc at gx gp
    have cv := hv.1
    have hv6 := hv.2.2.2.2
    rw [ck_t, I_A (k := 19), k1.1.A (j := 19) (by simp), e19, ok_bnd]
    refine ok_mono (hE f v lv c Q ps y (mid + 1) hi c1 c2 q r 0 (by omega) (CMP_m hv (by omega) (by omega)) (XP_k (Nat.le_refl _) (Nat.le_refl _) _ _ _ _ _ _ _ hx (KN_m k1.1)) (by omega) hh hQ (by omega)) (fun v1 _ p1 => ?_)
    have c1v := p1.1.2.1
    have p16 := p1.2.1
    refine put_1 (x := 20) c1v.1 ⟨by decide, by decide⟩ (fun v2 e2 => ?_)
    have k2 := EMc.km c1v e2
    have c2v := k2.2.1
    have kk2 := KMc.tr k1 (KMc.tr p1.1 k2)
    have e26 : F v2 706 = F v1 706 := congrArg _ (e2.1.1 706 (by simp))
    rw [ck_t, I_A (k := 18), kk2.1.A (j := 18) (by simp), e18, ok_bnd]
    refine ok_mono (pattern_300 (N := N) (f := f) (by omega) (by omega) v2 lv c ps x lo mid a c1 q q c2v (CSX_k hcs.1 kk2.1) (PA_k (Nat.le_refl _) _ _ _ _ _ _ _ hpa (KN_m kk2.1)) (by omega) (by omega) (by omega)) (fun v3 _ pq => ?_)
    have p3 := PQ_pc (hi := hi) (q := r) pq
    have c3v := p3.1.2.1
    have p36 := p3.2.1
    refine put_1 (x := 8) c3v.1 ⟨by decide, by decide⟩ (fun w e4 => ok_some.mpr ?_)
    have k4 := EMc.km c3v e4
    have e46 : F w 706 = F v3 706 := congrArg _ (e4.1.1 706 (by simp))
    have wb := WB_2 hcs.1 (lo := lo) (m := mid) (lo2 := mid + 1) (hi := hi) (by omega) (by omega) (by omega) hh
    have q1 := PC_seq (Y := TYX v v1 lv (mid + 1) q r (o + 1) (0 = 1) 1 ∧ szc v2 = szc v1 + 1 ∧ A v2 23 (szc v1) = 20 ∧ OLQ v1 v2 r r) p1 (PC_em (hi := hi) (q := r) c1v e2) (Nat.le_refl _) (by omega) (Nat.le_refl _) (fun gd o1 o2 y1 y2 => ⟨y1, y2.1, y2.2 0 (by simp), o2⟩)
    have q2 := PC_seq (Y := (TYX v v1 lv (mid + 1) q r (o + 1) (0 = 1) 1 ∧ szc v2 = szc v1 + 1 ∧ A v2 23 (szc v1) = 20 ∧ OLQ v1 v2 r r) ∧ PTSc v3 (szc v2) (szc v3) (knc v2 v3) ∧ OLQ v2 v3 r r) q1 p3 (Nat.le_refl _) (by omega) (Nat.le_refl _) (fun gd o1 o2 y1 y2 => ⟨y1, y2, o2⟩)
    have q3 := PC_seq (Y := TYX v w lv lo q r o (la = 1) 1) q2 (PC_em (hi := hi) (q := r) c3v e4) (Nat.le_refl _) (by omega) (Nat.le_refl _) (fun gd o1 o2 y1 y2 h m L g x p => ?_)
    · exact PC_w q3 (by simp; omega) (by omega) (Nat.le_refl _) (fun _ z => z)
    · obtain ⟨⟨tX, s2, z2, ol1⟩, pt, ol2⟩ := y1
      have s4 : szc w = szc v3 + 1 := y2.1
      have z4 : A w 23 (szc v3) = 8 := y2.2 0 (by simp)
      have l15 := gd.2.2.2.1
      have v12 : F v 712 = 0 := by
        rcases h12 with z | z
        · exact z
        · have := (KMc.tr (KMc.tr (KMc.tr p1.1 k2) p3.1) k4).2.2.2.1
          have := gd.1
          omega
      obtain ⟨rfl, rfl⟩ := no_g p v12
      refine ⟨fun z => absurd rfl z, ?_⟩
      obtain ⟨pp1, ⟨pp2, pp3⟩, pp4, pp5, -⟩ := p
      have a41a := k2.2.2.2.2.2.2.2.2
      have a41b := p3.1.2.2.2.2.2.2.2.2
      have a41c := k4.2.2.2.2.2.2.2.2
      have c48 := k4.2.1.2.2.2.2.2.2.2.2
      have a40 := (KMc.tr (KMc.tr (KMc.tr p1.1 k2) p3.1) k4).2.2.2.2.2.2.1 lv (Nat.le_refl _)
      have kn : ((knc v v1 : Nat) : Int) = F v1 706 - F v 706 := by show (((F v1 706 - F v 706).toNat : Nat) : Int) = _; omega
      have kn2 : ((knc v2 v3 : Nat) : Int) = F v3 706 - F v2 706 := by show (((F v3 706 - F v2 706).toNat : Nat) : Int) = _; omega
      have kn3 : knc v w = knc v v1 + knc v2 v3 := by show (F w 706 - F v 706).toNat = _; omega
      obtain ⟨-, i1⟩ := tX h m L 0 0 ⟨by omega, ⟨pp2, by omega⟩, by omega, fun z => absurd z (by decide), ⟨fun z => absurd rfl z, fun z => by rw [v12] at z; exact absurd z (by decide)⟩, fun _ => rfl⟩
      have c1r := c1v.1
      have c2r := c2v.1
      have c3r := c3v.1
      have l3 := szc_le c2v p3.1
      have t2 := k2.2.2.1
      have t3 := p3.1.2.2.1
      have v24 : szc v3 < 24000 := by
        have h5 := gd.2.2.1
        have h7 : (F w 441).toNat = szc v3 + 1 := s4
        omega
      have j1 := SG_kw c3v (SG_kw c2v (SG_kw c1v i1 k2.1 ol1 (Nat.le_refl _) (Or.inl (Nat.le_refl _))) p3.1.1 ol2 (szc_le c1v k2) (Or.inl (Nat.le_refl _))) k4.1 o2 (by have := szc_le c1v k2; omega) (Or.inl (Nat.le_refl _))
      have lt : ∀ j, j < szc v3 → A w 23 j = A v3 23 j := fun j hj => o2.1 j (by have h5 : j < (F v3 441).toNat := hj; omega)
      rw [s2] at pt l3
      have h6 : szc v1 < (F v2 441).toNat := by have h7 : (F v2 441).toNat = szc v1 + 1 := s2; omega
      have j2 := SG_mat (u := w) (a := szc v1) (e := szc v3) (b2 := knc v2 v3) (q := r) (z := h) (h := h + 1) (m := m + knc v v1) (L := L) (g := 0) (x := 0) (by omega) (by omega) (by omega) (by rw [lt _ (by omega), ol2.1 _ (by omega)]; exact z2) rfl (by omega) (PTS_k pt (fun j _ hj => lt j hj)) z4 v24
      rw [← s4] at j2
      have j := SG_seq j1 j2 (by omega) (fun z => absurd rfl z)
      rw [List.append_nil, Nat.add_assoc, ← kn3] at j
      exact j
  · 
    refine ng e16 (by decide) (by decide) ⟨by decide, by decide⟩ (fun v k1 f1 hg hv h12 e6 => ?_)
    rw [ck_t, I_A (k := 16), k1.1.A (j := 16) (by simp), e16]
    show OK _ (ck true (bnd (S.2.2.2.2.2.2.2.2.2.2.1 v (v.2.2.1 18 n) 0) (fun u119 _ => ck true (bnd (S.2.2.2.2.2.2.2.2.2.2.1 u119 (u119.2.2.1 19 n) 0) (fun u125 _ => bnd (hm_Co_put N u125 17) (fun u127 _ => hb_Cm_compound_455 N S () u127))))))
    have gx := XP_bd f o 2 _ _ _ _ _ _ _ hx
    have gy := XP_bd f (o + 1) 3 _ _ _ _ _ _ _ hy
    unfold HDc at gx gy
    rw [ck_t, I_A (k := 18), k1.1.A (j := 18) (by simp), e18, ok_bnd]
    refine ok_mono (hE2 hcl f v lv c Q ps x lo mid a c1 q s 0 (by omega) hv (XP_k (Nat.le_refl _) (Nat.le_refl _) _ _ _ _ _ _ _ hx (KN_m k1.1)) (by omega) (by omega) (by omega) (by omega)) (fun v1 _ p1 => ?_)
    have kk1 := KMc.tr k1 p1.1
    rw [ck_t, I_A (k := 19), kk1.1.A (j := 19) (by simp), e19, ok_bnd]
    refine ok_mono (hE f v1 lv c Q ps y (mid + 1) hi c1 c2 s r 0 (by omega) (CMP_s hv p1 (by omega) (by omega) (by omega)) (XP_k (Nat.le_refl _) (Nat.le_refl _) _ _ _ _ _ _ _ hy (KN_m kk1.1)) (by omega) hh hQ (by omega)) (fun v2 _ p2 => ?_)
    refine put_1 (x := 17) p2.1.2.1.1 ⟨by decide, by decide⟩ (fun w e4 => ok_some.mpr ?_)
    have wb := WB_2 hcs.1 (lo := lo) (m := mid) (lo2 := mid + 1) (hi := hi) (by omega) (by omega) (by omega) hh
    have p1' : PXS v v1 lv ps lo mid q s o False 1 := PC_w p1 (Int.le_refl _) (Nat.le_refl _) (Nat.le_refl _) (fun _ y => TY_mo y (Nat.le_refl _) (Nat.le_refl _) (fun z => absurd z (by decide)))
    have p2' : PXS v1 v2 lv ps (mid + 1) hi s r o False 1 := PC_w p2 (Int.le_refl _) (Nat.le_refl _) (Nat.le_refl _) (fun _ y => TY_mo y (Nat.le_refl _) (by omega) (fun z => absurd z (by decide)))
    have p3 := PC_two hv.1 p1' p2' (by omega) (by omega) (by omega) (hd := by omega) (W := WBc ps lo mid + WBc ps (mid + 1) hi) (t := hi - lo) (by omega) (by omega)
    exact PC_tail (hi := hi) (W := WBc ps lo hi) (la := la = 1) (d2 := 1) p3 e4 (by omega) (Nat.le_refl _) (by simp; omega) (fun z => z.elim) (fun h m L g x p gd l15 hm hh hw => by
      have j := SG_send (u := w) (a := szc v2) (q := r) (z := h) (h := h + (1 + 1)) (m := m + knc v v2) (L := L) (g := g) (x := x) (by omega) (by omega) hm (hw 0 (by simp)) (by omega)
      exact j)
  · exfalso; omega
end
