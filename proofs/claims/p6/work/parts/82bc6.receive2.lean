set_option maxRecDepth 100000
section
variable {u v w : MS} {N lv t hi lo o q r s c h m g x d a b k n f Q z la cl : Nat} {ps : Nat → Nat} {S : SF_Cm_fun}
theorem receiveC_ok (hE : ExS N S (o + 1) 3) (hPa : PaS N S o 1) (hB : BoS N S (o + 2)) (hN : 30000 ≤ N) {S2 : SF_Cm_fun} (h2 : S2.2.1 = hm_Cm_receive N S) : ReS N S2 o cl := by
  intro f u lv c Q ps n lo hi a b q r la hf hu h12 hX e16 hb hh hQ hla
  rw [h2]
  cases f with
  | zero => exact hX.elim
  | succ f =>
  obtain ⟨hd, htk, ho, hX⟩ := hX
  unfold HDc at hd
  have hcs := CMP_c hu
  have cu := hu.1
  obtain ⟨k, m, m1, c1, s1, e19, hr0, hX⟩ : ∃ k m m1 c1 s1 : Nat, A u 19 n = ((m : Nat) : Int) ∧ ORc u 1 (CSPc u (PAc u f) (XPc u f (o + 2) 3) (XPc u f (o + 1) 3)) k m (lo + 1) m1 a c1 q s1 ∧ ((A u 18 n = 0 ∧ A u 20 n = 0 ∧ 1 ≤ k ∧ hi = m1 + 1 ∧ s1 = r ∧ c1 < n) ∨ ∃ x m2 c2 s2 kb mb c3 : Nat, 1 ≤ x ∧ A u 18 n = ((x : Nat) : Int) ∧ XPc u f (o + 1) 3 x (m1 + 1) m2 c1 c2 s1 s2 ∧ A u 20 n = ((mb : Nat) : Int) ∧ RWc u 1 (XPc u f (o + 2) 3) kb mb (m2 + 1) (hi - 1) c2 c3 s2 r ∧ c3 < n) := by
    rcases hX with ⟨⟨l16, l6, -⟩, -⟩ | ⟨e, -⟩ | ⟨e, -⟩ | ⟨e, -⟩ | ⟨e, -⟩ | ⟨e, -⟩ | ⟨e, -⟩ | ⟨e, hx⟩ | ⟨e, -⟩ | ⟨e, -⟩ | ⟨e, -⟩ | ⟨e, -⟩ | ⟨e, -⟩ | ⟨e, -⟩ | ⟨e, -⟩ | ⟨e, -⟩ | ⟨e, -⟩
    all_goals first | exact hx | (exfalso; omega)
  have hr := OR_mp (fun n lo hi a b q r => CSP_pp (n := n) (lo := lo) (hi := hi) (a := a) (b := b) (q := q) (r := r)) hr0
  have gp := OR_hd (PP_bd f o 1) hr
  have i1 : inb (I ((n : Nat) : Int)) 8016 = true := (I_inb (by omega) (by omega)).mpr ⟨by omega, by omega⟩
  have hu6 := hu.2.2.2.2
  have c40 := cu.2.2.2.2.2.2.2.1
  have g0 : ∀ (w : MS), KMc u w lv → GDc w hi r → F u 712 = 0 := fun w kw gd => by
    rcases h12 with h12 | h12
    · exact h12
    · have := kw.2.2.2.1
      have := gd.1
      omega
  unfold hm_Cm_receive hb_Cm_receive_0
  rw [i1, ck_t, tnI (n := n) rfl (by omega), I_A (k := 18), I_F (k := 706)]
  rcases hX with ⟨e18, e20, hk1, hhi, hs1, hcn⟩ | ⟨x, m2, c2, s2, kb, mb, c3, hx1, e18, hx, e20, hrb, hcn⟩
  · rw [e18]
    refine k_c (y := 0) rfl ⟨by decide, by decide⟩ ⟨by decide, by decide⟩ (fun _ => ?_) (fun z => absurd rfl z)
    show OK _ (hb_Cm_receive_48 N S () u (I ((n : Nat) : Int)) (I ((la : Nat) : Int)) (I (F u 706)) 0)
    refine recv1 (tt := 0) (F1 := fun u28 r20 => hb_Cm_receive_173 N S () u28 r20) (la := la) (lo := lo) (m1 := m1) (lv := lv) (cc := c) (ps := ps) (Q := Q) (f := f) (q := q) (s1 := s1) hPa hN (by omega) (CMP_m hu (by omega) (Nat.le_refl _)) h12 (by omega) e19 hr (by omega) (by omega) (by omega) hla (Or.inl rfl) (fun v ce hce pv => ?_)
    show OK _ (hb_Cm_receive_173 N S () v (I ce))
    unfold hb_Cm_receive_173
    rw [ok_bnd]
    refine ok_mono (arrive_ok (N := N) (u := v) hce (by omega)) (fun w _ hw => ok_some.mpr ?_)
    have cv := pv.1.2.1
    have wb := WB_1 hcs.1 (lo := lo) (lo2 := lo + 1) (hi2 := m1) (hi := hi) (by omega) (by omega) (by omega) hh
    have e41 : A w 41 lv = A v 41 lv := by show (w.2.2.1 41 lv).toInt = _; rw [hw.1.2.2.1 41 (by simp)]; rfl
    have e6w : F w 706 = F v 706 := congrArg _ (hw.1.1 706 (by simp))
    subst hs1
    have p2 := PC_arr (Y1 := TYX u w lv lo q s1 o (la = 1) 1) (PC_w (hi := hi) pv (Int.le_refl _) (Nat.le_refl _) (by omega) (fun gd y => (⟨y, gd⟩ : _ ∧ GDc v hi s1))) hw.1 (fun gv y j hj => ?_) (fun gw gv y => ?_)
    · exact PC_w p2 (by omega) (by omega) (Nat.le_refl _) (fun _ z => z)
    · obtain ⟨⟨-, -, Hp, ch, hp, -⟩, -⟩ := y
      refine (hw.2 Hp ch).2 j (fun hj2 => ?_)
      have : (F u 441).toNat ≤ j := (hp j hj2).1
      omega
    · obtain ⟨⟨e6, sl, Hp, ch, hp, ty⟩, gd⟩ := y
      have ar := hw.2 Hp ch
      intro h m L g x p
      have u12 := g0 v pv.1 gd
      have gg : g = 0 := by
        by_cases z : g = 0
        · exact z
        · have := p.2.2.2.2.1.mp z
          rw [u12] at this
          exact absurd this (by decide)
      have xx := p.2.2.2.2.2 gg
      subst gg xx
      refine ⟨fun z => absurd rfl z, ?_⟩
      have nm : NMc u v lv m := ⟨p.2.1.1, by have := p.2.1.2; omega⟩
      have i2 := ty h h m L (Nat.le_refl _) (by have := p.1; omega) nm p.2.2.1 p.2.2.2.1
      rw [show knc u w = 0 by show (F w 706 - F u 706).toNat = 0; omega]
      rw [if_neg (by decide), if_neg (by decide), ← List.append_nil (Hp.map _)] at i2
      refine SG_arc (lv := lv) (H2 := []) (Hp := Hp) cv hw.1 ar i2 (by omega) (Or.inl rfl) (fun p t hp => ?_) (fun p hp => ⟨_, List.mem_map.mpr ⟨p, hp, rfl⟩⟩) (fun p t t2 _ hp => by simp at hp)
      obtain ⟨p2, hp2, h5⟩ := List.mem_map.mp hp
      injection h5 with h6 h7
      exact ⟨h7.symm, h6 ▸ hp2⟩
  · rw [e18]
    have gx := XP_bd f (o + 1) 3 _ _ _ _ _ _ _ hx
    have gb := (RW_hd (XP_bd f (o + 2) 3) hrb).1
    unfold HDc at gx gb
    refine k_c (y := 0) rfl ⟨by omega, by omega⟩ ⟨by decide, by decide⟩ (fun z => absurd z (by omega)) (fun _ => ?_)
    unfold hb_Cm_receive_22
    refine ok_br.mpr ⟨fun z => absurd z (by decide), fun _ => ?_⟩
    rw [i1, ck_t, tnI (n := n) rfl (by omega), I_A (k := 18), e18, ok_bnd]
    refine ok_mono (hE f u lv c Q ps x (m1 + 1) m2 c1 c2 s1 s2 0 (by omega) (CMP_m hu (by omega) (by omega)) hx (by omega) (by omega) (by omega) (by omega)) (fun v1 _ p1 => ?_)
    have c1v := p1.1.2.1
    have e40 := p1.1.2.2.2.2.2.2.1 lv (Nat.le_refl _)
    have b61 := p1.2.1
    refine forget_B c1v (by omega) (by omega) (fun v2 l2 k2 e26 f2 em2 hl2 => ?_)
    have pA := PC_fgt (Y1 := (F v2 706 = F u 706) ∧ ∀ h m L, 2 * h ≤ lo + 16 → NMc u v2 lv m → L.length ≤ o → F u 712 = 0 → SGc v2 (szc u) (szc v2) s1 s2 [] h h m L 0 0 (some (h + 1, m, L, 0, 0))) k2 e26 f2 em2 hl2 p1 (Int.le_refl _) (by omega) (fun gw gv ol y fg => ⟨e26, fun h m L h2 nm hL u12 => by
      obtain ⟨nm1, nm2⟩ := nm
      have l15 := gw.2.2.2.1
      have a41 := k2.2.2.2.2.2.2.2.2
      obtain ⟨-, i2⟩ := y h m L 0 0 ⟨by omega, ⟨nm1, by omega⟩, by omega, fun z => absurd z (by decide), ⟨fun z => absurd rfl z, fun z => by rw [u12] at z; exact absurd z (by decide)⟩, fun _ => rfl⟩
      have kn : ((knc u v1 : Nat) : Int) = F v1 706 - F u 706 := by show (((F v1 706 - F u 706).toNat : Nat) : Int) = _; omega
      have c8 := c1v.2.2.2.2.2.2.2.2
      have i3 := fg h (h + 1) (m + knc u v1) L 0 0 (by omega) (by omega) (by omega) (by omega) (Or.inr rfl)
      rw [show m + knc u v1 - (F v1 706 - F u 706).toNat = m by omega] at i3
      have j1 := SG_kw c1v i2 k2.1 ol (Nat.le_refl _) (Or.inl (Nat.le_refl _))
      have j := SG_seq j1 i3 (by omega) (fun z => absurd rfl z)
      rw [List.append_nil] at j
      exact j⟩)
    have c2v := k2.2.1
    have ku2 := pA.1
    have h122 : F v2 712 = 0 ∨ F v2 714 < 1000000000 := by
      rcases h12 with z | z
      · exact Or.inl (by rw [ku2.2.2.2.2.2.1.1]; exact z)
      · have := ku2.2.2.2.1
        exact Or.inr (by omega)
    have hv2 : CMP v2 lv c ps Q o (lo + 1) := CMP_k hu ku2 (by omega) (Nat.le_refl _)
    show OK _ (hb_Cm_receive_48 N S () v2 (I ((n : Nat) : Int)) (I ((la : Nat) : Int)) (I (F u 706)) 1)
    refine recv1 (tt := 1) (F1 := fun u28 r20 => ck (inb (I ((n : Nat) : Int)) 8016) (bnd (S.2.2.2.1 u28 (u28.2.2.1 20 (I ((n : Nat) : Int)).toNatClampNeg) (I ((la : Nat) : Int))) (fun u35 _ => bnd (hm_Cm_forget N u35 (I (F u 706))) (fun u36 _ => hb_Cm_receive_173 N S () u36 r20)))) (la := la) (lo := lo) (m1 := m1) (lv := lv) (cc := c) (ps := ps) (Q := Q) (f := f) (q := q) (s1 := s1) hPa hN (by omega) hv2 h122 (by omega) (by rw [ku2.1.A (by simp)]; exact e19) (OR_k (PP_k ku2.1) (PP_bd f o 1) hr (KN_m ku2.1)) (by omega) (by omega) (by omega) hla (Or.inr rfl) (fun v7 ce hce p7 => ?_)
    show OK _ (ck (inb (I ((n : Nat) : Int)) 8016) (bnd (S.2.2.2.1 v7 (v7.2.2.1 20 (I ((n : Nat) : Int)).toNatClampNeg) (I ((la : Nat) : Int))) (fun u35 _ => bnd (hm_Cm_forget N u35 (I (F u 706))) (fun u36 _ => hb_Cm_receive_173 N S () u36 (I ce)))))
    have c7 := p7.1.2.1
    have ku7 := KMc.tr ku2 p7.1
    rw [i1, ck_t, tnI (n := n) rfl (by omega), I_A (k := 20), ku7.1.A (j := 20) (by simp), e20, ok_bnd]
    have p76 := p7.2.1
    have hv7 : CMP v7 lv c ps Q (o + 2) (m2 + 1) := CMP_k hu ku7 (by omega) (by omega)
    refine ok_mono (hB f kb v7 lv c Q ps mb (m2 + 1) (hi - 1) c2 c3 s2 r la (by omega) hv7 (RW_k (XP_k (Nat.le_refl _) (Nat.le_refl _)) (XP_bd f (o + 2) 3) hrb (KN_m ku7.1)) (by omega) (by omega) hQ hla) (fun v8 _ p8 => ?_)
    have c8v := p8.1.2.1
    have p86 := p8.2.1
    have q1 := PC_seqw (hi := m2) (q := q) (r := s2) (Y := ((F v2 706 = F u 706) ∧ ∀ h m L, 2 * h ≤ lo + 16 → NMc u v2 lv m → L.length ≤ o → F u 712 = 0 → SGc v2 (szc u) (szc v2) s1 s2 [] h h m L 0 0 (some (h + 1, m, L, 0, 0))) ∧ OLQ v2 v7 q s1 ∧ (F v7 706 = F v2 706 ∧ szc v2 + 6 ≤ szc v7 ∧ ∃ Hp : List Nat, CHNc v7 Hp ce ∧ (∀ p, p ∈ Hp → szc v2 ≤ p ∧ p < szc v7) ∧ ∀ z h m L, z ≤ h → 2 * h ≤ lo + 1 + 16 → NMc v2 v7 lv m → L.length ≤ o → (la = 1 → L = []) → SGc v7 (szc v2) (szc v7) q s1 (Hp.map (fun p => (p, (h + 1, m, L, 0, 0)))) z (h + 1) m L 0 0 (some (h, m, L, 0, 0)))) pA (PC_w (hi := m2) p7 (Int.le_refl _) (Nat.le_refl _) (by omega) (fun _ y => y)) (Nat.le_refl _) ⟨by omega, by omega⟩ ⟨by omega, by omega⟩ (fun gd o1 o2 y1 y2 => ⟨y1, o2, y2⟩)
    have q2 := PC_seq (Y := (((F v2 706 = F u 706) ∧ ∀ h m L, 2 * h ≤ lo + 16 → NMc u v2 lv m → L.length ≤ o → F u 712 = 0 → SGc v2 (szc u) (szc v2) s1 s2 [] h h m L 0 0 (some (h + 1, m, L, 0, 0))) ∧ OLQ v2 v7 q s1 ∧ (F v7 706 = F v2 706 ∧ szc v2 + 6 ≤ szc v7 ∧ ∃ Hp : List Nat, CHNc v7 Hp ce ∧ (∀ p, p ∈ Hp → szc v2 ≤ p ∧ p < szc v7) ∧ ∀ z h m L, z ≤ h → 2 * h ≤ lo + 1 + 16 → NMc v2 v7 lv m → L.length ≤ o → (la = 1 → L = []) → SGc v7 (szc v2) (szc v7) q s1 (Hp.map (fun p => (p, (h + 1, m, L, 0, 0)))) z (h + 1) m L 0 0 (some (h, m, L, 0, 0)))) ∧ OLQ v7 v8 s2 r ∧ TYX v7 v8 lv (m2 + 1) s2 r (o + 2) (la = 1) 1) q1 p8 (by omega) (by omega) (by omega) (fun gd o1 o2 y1 y2 => ⟨y1, o2, y2⟩)
    have e40b := q2.1.2.2.2.2.2.2.1 lv (Nat.le_refl _)
    refine forget_B c8v (by omega) (by omega) (fun v9 l9 k9 e96 f9 em9 hl9 => ?_)
    have q3 := PC_fgt (Y1 := ((((F v2 706 = F u 706) ∧ ∀ h m L, 2 * h ≤ lo + 16 → NMc u v2 lv m → L.length ≤ o → F u 712 = 0 → SGc v2 (szc u) (szc v2) s1 s2 [] h h m L 0 0 (some (h + 1, m, L, 0, 0))) ∧ OLQ v2 v7 q s1 ∧ (F v7 706 = F v2 706 ∧ szc v2 + 6 ≤ szc v7 ∧ ∃ Hp : List Nat, CHNc v7 Hp ce ∧ (∀ p, p ∈ Hp → szc v2 ≤ p ∧ p < szc v7) ∧ ∀ z h m L, z ≤ h → 2 * h ≤ lo + 1 + 16 → NMc v2 v7 lv m → L.length ≤ o → (la = 1 → L = []) → SGc v7 (szc v2) (szc v7) q s1 (Hp.map (fun p => (p, (h + 1, m, L, 0, 0)))) z (h + 1) m L 0 0 (some (h, m, L, 0, 0)))) ∧ OLQ v7 v8 s2 r ∧ TYX v7 v8 lv (m2 + 1) s2 r (o + 2) (la = 1) 1) ∧ OLQ v8 v9 r r ∧ (∀ z h m L g x, z ≤ h → h ≤ 1090 → m ≤ 40 → (F v8 706 - F u 706).toNat ≤ m → ((F v8 706 - F u 706).toNat = 0 ∨ g = 0) → SGc v9 (szc v8) (szc v9) r r [] z h m L g x (some (h, m - (F v8 706 - F u 706).toNat, L, g, x))) ∧ GDc v9 (hi - 1) r) k9 e96 f9 em9 hl9 q2 (Int.le_refl _) (by omega) (fun gw gv ol y fg => ⟨y, ol, fg, gw⟩)
    have c9v := k9.2.1
    unfold hb_Cm_receive_173
    rw [ok_bnd]
    refine ok_mono (arrive_ok (N := N) (u := v9) hce (by omega)) (fun w _ hw => ok_some.mpr ?_)
    have k9w := KM_23 c9v hw.1
    have e41 : A w 41 lv = A v9 41 lv := by show (w.2.2.1 41 lv).toInt = _; rw [hw.1.2.2.1 41 (by simp)]; rfl
    have e6w : F w 706 = F u 706 := (congrArg _ (hw.1.1 706 (by simp)) : F w 706 = F v9 706).trans e96
    have wb : WBc ps (m1 + 1) m2 + WBc ps (lo + 1) m1 + WBc ps (m2 + 1) (hi - 1) + 36 ≤ WBc ps lo hi := by
      have w1 := WB_2 hcs.1 (lo := lo + 1) (m := m1) (lo2 := m1 + 1) (hi := m2) (by omega) (by omega) (by omega) (by omega)
      have w2 := WB_2 hcs.1 (lo := lo + 1) (m := m2) (lo2 := m2 + 1) (hi := hi - 1) (by omega) (by omega) (by omega) (by omega)
      have w3 := WB_1 hcs.1 (lo := lo) (lo2 := lo + 1) (hi2 := hi - 1) (hi := hi) (by omega) (by omega) (by omega) hh
      omega
    have chn : ∀ Hp : List Nat, CHNc v7 Hp ce → (∀ p, p ∈ Hp → szc v2 ≤ p ∧ p < szc v7) → OLQ v7 v8 s2 r → OLQ v8 v9 r r → CHNc v9 Hp ce := fun Hp c1 c2 o1 o2 => CHNc_k (fun p hp => by
      have hp2 : p < (F v7 441).toNat := (c2 p hp).2
      have := c7.1
      have f1 := p8.1.2.2.1
      rw [o2.1 p (by omega), o1.1 p (by omega)]) c1
    have u2 := szc_le cu ku2
    have p9 := PC_arr (t := 0) (Y1 := TYX u w lv lo q r o (la = 1) 1) (⟨q3.1, by omega, q3.2.2.1, q3.2.2.2⟩ : PCQ u v9 lv _ 0 (hi - 1) q r _) hw.1 (fun gv y j hj => ?_) (fun gw gv y => ?_)
    · exact PC_w p9 (by omega) (by omega) (by omega) (fun _ z => z)
    · obtain ⟨⟨⟨-, -, -, -, Hp, ch, hp, -⟩, o1, -⟩, o2, -⟩ := y
      refine (hw.2 Hp (chn Hp ch hp o1 o2)).2 j (fun hj2 => ?_)
      have h5 := (hp j hj2).1
      have : (F u 441).toNat ≤ szc v2 := u2
      omega
    · obtain ⟨⟨⟨⟨-, tA⟩, oR, -, sl, Hp, ch, hp, tR⟩, o1, tB⟩, o2, fg, gd⟩ := y
      have ar := hw.2 Hp (chn Hp ch hp o1 o2)
      intro h m L g x p
      have u12 : F u 712 = 0 := by
        rcases h12 with h12 | h12
        · exact h12
        · have := q3.1.2.2.2.1
          have := gd.1
          omega
      have gg : g = 0 := by
        by_cases z : g = 0
        · exact z
        · have := p.2.2.2.2.1.mp z
          rw [u12] at this
          exact absurd this (by decide)
      have xx := p.2.2.2.2.2 gg
      subst gg xx
      refine ⟨fun z => absurd rfl z, ?_⟩
      have l15 := gd.2.2.2.1
      have n1 := p.2.1.1
      have n2 := p.2.1.2
      have hpl := p.1
      have a41a := p7.1.2.2.2.2.2.2.2.2
      have a41b := p8.1.2.2.2.2.2.2.2.2
      have a41c := k9.2.2.2.2.2.2.2.2
      have a40 := ku2.2.2.2.2.2.2.1 lv (Nat.le_refl _)
      have a40c := ku7.2.2.2.2.2.2.1 lv (Nat.le_refl _)
      have c88 := c8v.2.2.2.2.2.2.2.2
      have kn : ((knc v7 v8 : Nat) : Int) = F v8 706 - F v7 706 := by show (((F v8 706 - F v7 706).toNat : Nat) : Int) = _; omega
      have iA := tA h m L hpl ⟨n1, by omega⟩ p.2.2.1 u12
      have iR := tR h h m L (Nat.le_refl _) (by omega) ⟨by rw [a40, e26]; exact n1, by rw [a40, e26]; omega⟩ p.2.2.1 p.2.2.2.1
      obtain ⟨-, iB⟩ := tB h m L 0 0 ⟨by omega, ⟨by rw [a40c]; omega, by rw [a40c]; omega⟩, by have := p.2.2.1; omega, p.2.2.2.1, ⟨fun z => absurd rfl z, fun z => by rw [ku7.2.2.2.2.2.1.1, u12] at z; exact absurd z (by decide)⟩, fun _ => rfl⟩
      have iF := fg h (h + 1) (m + knc v7 v8) L 0 0 (by omega) (by omega) (by omega) (by omega) (Or.inr rfl)
      rw [show m + knc v7 v8 - (F v8 706 - F u 706).toNat = m by omega] at iF
      have jA := SG_kw c2v iA p7.1.1 oR (Nat.le_refl _) (Or.inr (Nat.le_refl _))
      have jAR := SG_seqr jA iR
      have jAR' := SG_kw c7 jAR p8.1.1 o1 (Nat.le_refl _) (Or.inl (Nat.le_refl _))
      have jB := SG_seq jAR' iB (by omega) (fun z => absurd rfl z)
      have jB' := SG_kw c8v jB k9.1 o2 (Nat.le_refl _) (Or.inl (Nat.le_refl _))
      have jF := SG_seq jB' iF (by omega) (fun z => absurd rfl z)
      rw [List.nil_append, List.append_nil] at jF
      rw [show knc u w = 0 by show (F w 706 - F u 706).toNat = 0; omega]
      have l9 := szc_le c7 p8.1
      have l10 := szc_le c8v k9
      refine SG_arc (lv := lv) (H2 := []) (Hp := Hp) c9v hw.1 ar jF (by omega) (Or.inr rfl) (fun p t hp => ?_) (fun p hp => ⟨_, List.mem_map.mpr ⟨p, hp, rfl⟩⟩) (fun p t t2 _ hp => by simp at hp)
      obtain ⟨p2, hp2, h5⟩ := List.mem_map.mp hp
      injection h5 with h6 h7
      exact ⟨h7.symm, h6 ▸ hp2⟩
end
