section
set_option maxRecDepth 100000
section
variable {u v w : MS} {N lv t hi lo o q r s c h m g x d a b k n f Q z la cl : Nat} {ps : Nat → Nat} {S : SF_Cm_fun}
theorem receiveC_ok (hE : ExS N S (o + 1) 3) (hPa : PaS N S o 1) (hB : BoS N S (o + 2)) (hN : 30000 ≤ N) {S2 : SF_Cm_fun} (h2 : S2.2.1 = hm_Cm_receive N S) : ReS N S2 o cl := by
  intro f u lv c Q ps n lo hi a b q r la hf hu h12 hX e16 hb hh hQ hla
  rw [h2]
  cases f with
  | zero => exact hX.elim
  | succ f =>
  obtain ⟨hd, htk, ho, hX⟩ := hX
  unfold HDc at hd
  have hcs := CMP_c hu
  have cu := hu.1
  obtain ⟨k, m, m1, c1, s1, e19, hr0, hX⟩ : ∃ k m m1 c1 s1 : Nat, A u 19 n = ((m : Nat) : Int) ∧ ORc u 1 (CSPc u (PAc u f) (XPc u f (o + 2) 3) (XPc u f (o + 1) 3)) k m (lo + 1) m1 a c1 q s1 ∧ ((A u 18 n = 0 ∧ A u 20 n = 0 ∧ 1 ≤ k ∧ hi = m1 + 1 ∧ s1 = r ∧ c1 < n) ∨ ∃ x m2 c2 s2 kb mb c3 : Nat, 1 ≤ x ∧ A u 18 n = ((x : Nat) : Int) ∧ XPc u f (o + 1) 3 x (m1 + 1) m2 c1 c2 s1 s2 ∧ A u 20 n = ((mb : Nat) : Int) ∧ RWc u 1 (XPc u f (o + 2) 3) kb mb (m2 + 1) (hi - 1) c2 c3 s2 r ∧ c3 < n) := by
    rcases hX with ⟨⟨l16, l6, -⟩, -⟩ | ⟨e, -⟩ | ⟨e, -⟩ | ⟨e, -⟩ | ⟨e, -⟩ | ⟨e, -⟩ | ⟨e, -⟩ | ⟨e, hx⟩ | ⟨e, -⟩ | ⟨e, -⟩ | ⟨e, -⟩ | ⟨e, -⟩ | ⟨e, -⟩ | ⟨e, -⟩ | ⟨e, -⟩ | ⟨e, -⟩ | ⟨e, -⟩
    all_goals first | exact hx | (exfalso; omega)
  have hr := OR_mp (fun n lo hi a b q r => CSP_pp (n := n) (lo := lo) (hi := hi) (a := a) (b := b) (q := q) (r := r)) hr0
  have gp := OR_hd (PP_bd f o 1) hr
  have i1 : inb (I ((n : Nat) : Int)) 8016 = true := (I_inb (by omega) (by omega)).mpr ⟨by omega, by omega⟩
  have hu6 := hu.2.2.2.2
  have c40 := cu.2.2.2.2.2.2.2.1
  have g0 : ∀ (w : MS), KMc u w lv → GDc w hi r → F u 712 = 0 := fun w kw gd => by
    rcases h12 with h12 | h12
    · exact h12
    · have := kw.2.2.2.1
      have := gd.1
      omega
  unfold hm_Cm_receive hb_Cm_receive_0
  rw [i1, ck_t, tnI (n := n) rfl (by omega), I_A (k := 18), I_F (k := 706)]
  rcases hX with ⟨e18, e20, hk1, hhi, hs1, hcn⟩ | ⟨x, m2, c2, s2, kb, mb, c3, hx1, e18, hx, e20, hrb, hcn⟩
  · rw [e18]
    refine k_c (y := 0) rfl ⟨by decide, by decide⟩ ⟨by decide, by decide⟩ (fun _ => ?_) (fun z => absurd rfl z)
    show OK _ (hb_Cm_receive_48 N S () u (I ((n : Nat) : Int)) (I ((la : Nat) : Int)) (I (F u 706)) 0)
    refine recv1 (tt := 0) (F1 := fun u28 r20 => hb_Cm_receive_173 N S () u28 r20) (la := la) (lo := lo) (m1 := m1) (lv := lv) (cc := c) (ps := ps) (Q := Q) (f := f) (q := q) (s1 := s1) hPa hN (by omega) (CMP_m hu (by omega) (Nat.le_refl _)) h12 (by omega) e19 hr (by omega) (by omega) (by omega) hla (Or.inl rfl) (fun v ce hce pv => ?_)
    show OK _ (hb_Cm_receive_173 N S () v (I ce))
    unfold hb_Cm_receive_173
    rw [ok_bnd]
    refine ok_mono (arrive_ok (N := N) (u := v) hce (by omega)) (fun w _ hw => ok_some.mpr ?_)
    have cv := pv.1.2.1
    have wb := WB_1 hcs.1 (lo := lo) (lo2 := lo + 1) (hi2 := m1) (hi := hi) (by omega) (by omega) (by omega) hh
    have e41 : A w 41 lv = A v 41 lv := by show (w.2.2.1 41 lv).toInt = _; rw [hw.1.2.2.1 41 (by simp)]; rfl
    have e6w : F w 706 = F v 706 := congrArg _ (hw.1.1 706 (by simp))
    subst hs1
    have p2 := PC_arr (Y1 := TYX u w lv lo q s1 o (la = 1) 1) (PC_w (hi := hi) pv (Int.le_refl _) (Nat.le_refl _) (by omega) (fun gd y => (⟨y, gd⟩ : _ ∧ GDc v hi s1))) hw.1 (fun gv y j hj => ?_) (fun gw gv y => ?_)
    · exact PC_w p2 (by omega) (by omega) (Nat.le_refl _) (fun _ z => z)
    · obtain ⟨⟨-, -, Hp, ch, hp, -⟩, -⟩ := y
      refine (hw.2 Hp ch).2 j (fun hj2 => ?_)
      have : (F u 441).toNat ≤ j := (hp j hj2).1
      omega
    · obtain ⟨⟨e6, sl, Hp, ch, hp, ty⟩, gd⟩ := y
      have ar := hw.2 Hp ch
      intro h m L g x p
      have u12 := g0 v pv.1 gd
      have gg : g = 0 := by
        by_cases z : g = 0
        · exact z
        · have := p.2.2.2.2.1.mp z
          rw [u12] at this
          exact absurd this (by decide)
      have xx := p.2.2.2.2.2 gg
      subst gg xx
      refine ⟨fun z => absurd rfl z, ?_⟩
      have nm : NMc u v lv m := ⟨p.2.1.1, by have := p.2.1.2; omega⟩
      have i2 := ty h h m L (Nat.le_refl _) (by have := p.1; omega) nm p.2.2.1 p.2.2.2.1
      rw [show knc u w = 0 by show (F w 706 - F u 706).toNat = 0; omega]
      rw [if_neg (by decide), if_neg (by decide), ← List.append_nil (Hp.map _)] at i2
      refine SG_arc (lv := lv) (H2 := []) (Hp := Hp) cv hw.1 ar i2 (by omega) (Or.inl rfl) (fun p t hp => ?_) (fun p hp => ⟨_, List.mem_map.mpr ⟨p, hp, rfl⟩⟩) (fun p t t2 _ hp => by simp at hp)
      obtain ⟨p2, hp2, h5⟩ := List.mem_map.mp hp
      injection h5 with h6 h7
      exact ⟨h7.symm, h6 ▸ hp2⟩
  · rw [e18]
    have gx := XP_bd f (o + 1) 3 _ _ _ _ _ _ _ hx
    have gb := (RW_hd (XP_bd f (o + 2) 3) hrb).1
    unfold HDc at gx gb
    refine k_c (y := 0) rfl ⟨by omega, by omega⟩ ⟨by decide, by decide⟩ (fun z => absurd z (by omega)) (fun _ => ?_)
    unfold hb_Cm_receive_22
    refine ok_br.mpr ⟨fun z => absurd z (by decide), fun _ => ?_⟩
    rw [i1, ck_t, tnI (n := n) rfl (by omega), I_A (k := 18), e18, ok_bnd]
    refine ok_mono (hE f u lv c Q ps x (m1 + 1) m2 c1 c2 s1 s2 0 (by omega) (CMP_m hu (by omega) (by omega)) hx (by omega) (by omega) (by omega) (by omega)) (fun v1 _ p1 => ?_)
    have c1v := p1.1.2.1
    have e40 := p1.1.2.2.2.2.2.2.1 lv (Nat.le_refl _)
    have b61 := p1.2.1
    refine forget_B c1v (by omega) (by omega) (fun v2 l2 k2 e26 f2 em2 hl2 => ?_)
    have pA := PC_fgt (Y1 := (F v2 706 = F u 706) ∧ ∀ h m L, 2 * h ≤ lo + 16 → NMc u v2 lv m → L.length ≤ o → F u 712 = 0 → SGc v2 (szc u) (szc v2) s1 s2 [] h h m L 0 0 (some (h + 1, m, L, 0, 0))) k2 e26 f2 em2 hl2 p1 (Int.le_refl _) (by omega) (fun gw gv ol y fg => ⟨e26, fun h m L h2 nm hL u12 => by
      obtain ⟨nm1, nm2⟩ := nm
      have l15 := gw.2.2.2.1
      have a41 := k2.2.2.2.2.2.2.2.2
      obtain ⟨-, i2⟩ := y h m L 0 0 ⟨by omega, ⟨nm1, by omega⟩, by omega, fun z => absurd z (by decide), ⟨fun z => absurd rfl z, fun z => by rw [u12] at z; exact absurd z (by decide)⟩, fun _ => rfl⟩
      have kn : ((knc u v1 : Nat) : Int) = F v1 706 - F u 706 := by show (((F v1 706 - F u 706).toNat : Nat) : Int) = _; omega
      have c8 := c1v.2.2.2.2.2.2.2.2
      have i3 := fg h (h + 1) (m + knc u v1) L 0 0 (by omega) (by omega) (by omega) (by omega) (Or.inr rfl)
      rw [show m + knc u v1 - (F v1 706 - F u 706).toNat = m by omega] at i3
      have j1 := SG_kw c1v i2 k2.1 ol (Nat.le_refl _) (Or.inl (Nat.le_refl _))
      have j := SG_seq j1 i3 (by omega) (fun z => absurd rfl z)
      rw [List.append_nil] at j
      exact j⟩)
    have c2v := k2.2.1
    have ku2 := pA.1
    have h122 : F v2 712 = 0 ∨ F v2 714 < 1000000000 := by
      rcases h12 with z | z
      · exact Or.inl (by rw [ku2.2.2.2.2.2.1.1]; exact z)
      · have := ku2.2.2.2.1
        exact Or.inr (by omega)
    have hv2 : CMP v2 lv c ps Q o (lo + 1) := CMP_k hu ku2 (by omega) (Nat.le_refl _)
    show OK _ (hb_Cm_receive_48 N S () v2 (I ((n : Nat) : Int)) (I ((la : Nat) : Int)) (I (F u 706)) 1)
    refine recv1 (tt := 1) (F1 := fun u28 r20 => ck (inb (I ((n : Nat) : Int)) 8016) (bnd (S.2.2.2.1 u28 (u28.2.2.1 20 (I ((n : Nat) : Int)).toNatClampNeg) (I ((la : Nat) : Int))) (fun u35 _ => bnd (hm_Cm_forget N u35 (I (F u 706))) (fun u36 _ => hb_Cm_receive_173 N S () u36 r20)))) (la := la) (lo := lo) (m1 := m1) (lv := lv) (cc := c) (ps := ps) (Q := Q) (f := f) (q := q) (s1 := s1) hPa hN (by omega) hv2 h122 (by omega) (by rw [ku2.1.A (by simp)]; exact e19) (OR_k (PP_k ku2.1) (PP_bd f o 1) hr (KN_m ku2.1)) (by omega) (by omega) (by omega) hla (Or.inr rfl) (fun v7 ce hce p7 => ?_)
    show OK _ (ck (inb (I ((n : Nat) : Int)) 8016) (bnd (S.2.2.2.1 v7 (v7.2.2.1 20 (I ((n : Nat) : Int)).toNatClampNeg) (I ((la : Nat) : Int))) (fun u35 _ => bnd (hm_Cm_forget N u35 (I (F u 706))) (fun u36 _ => hb_Cm_receive_173 N S () u36 (I ce)))))
    have c7 := p7.1.2.1
    have ku7 := KMc.tr ku2 p7.1
    rw [i1, ck_t, tnI (n := n) rfl (by omega), I_A (k := 20), ku7.1.A (j := 20) (by simp), e20, ok_bnd]
    have p76 := p7.2.1
    have hv7 : CMP v7 lv c ps Q (o + 2) (m2 + 1) := CMP_k hu ku7 (by omega) (by omega)
    refine ok_mono (hB f kb v7 lv c Q ps mb (m2 + 1) (hi - 1) c2 c3 s2 r la (by omega) hv7 (RW_k (XP_k (Nat.le_refl _) (Nat.le_refl _)) (XP_bd f (o + 2) 3) hrb (KN_m ku7.1)) (by omega) (by omega) hQ hla) (fun v8 _ p8 => ?_)
    have c8v := p8.1.2.1
    have p86 := p8.2.1
    have q1 := PC_seqw (hi := m2) (q := q) (r := s2) (Y := ((F v2 706 = F u 706) ∧ ∀ h m L, 2 * h ≤ lo + 16 → NMc u v2 lv m → L.length ≤ o → F u 712 = 0 → SGc v2 (szc u) (szc v2) s1 s2 [] h h m L 0 0 (some (h + 1, m, L, 0, 0))) ∧ OLQ v2 v7 q s1 ∧ (F v7 706 = F v2 706 ∧ szc v2 + 6 ≤ szc v7 ∧ ∃ Hp : List Nat, CHNc v7 Hp ce ∧ (∀ p, p ∈ Hp → szc v2 ≤ p ∧ p < szc v7) ∧ ∀ z h m L, z ≤ h → 2 * h ≤ lo + 1 + 16 → NMc v2 v7 lv m → L.length ≤ o → (la = 1 → L = []) → SGc v7 (szc v2) (szc v7) q s1 (Hp.map (fun p => (p, (h + 1, m, L, 0, 0)))) z (h + 1) m L 0 0 (some (h, m, L, 0, 0)))) pA (PC_w (hi := m2) p7 (Int.le_refl _) (Nat.le_refl _) (by omega) (fun _ y => y)) (Nat.le_refl _) ⟨by omega, by omega⟩ ⟨by omega, by omega⟩ (fun gd o1 o2 y1 y2 => ⟨y1, o2, y2⟩)
    have q2 := PC_seq (Y := (((F v2 706 = F u 706) ∧ ∀ h m L, 2 * h ≤ lo + 16 → NMc u v2 lv m → L.length ≤ o → F u 712 = 0 → SGc v2 (szc u) (szc v2) s1 s2 [] h h m L 0 0 (some (h + 1, m, L, 0, 0))) ∧ OLQ v2 v7 q s1 ∧ (F v7 706 = F v2 706 ∧ szc v2 + 6 ≤ szc v7 ∧ ∃ Hp : List Nat, CHNc v7 Hp ce ∧ (∀ p, p ∈ Hp → szc v2 ≤ p ∧ p < szc v7) ∧ ∀ z h m L, z ≤ h → 2 * h ≤ lo + 1 + 16 → NMc v2 v7 lv m → L.length ≤ o → (la = 1 → L = []) → SGc v7 (szc v2) (szc v7) q s1 (Hp.map (fun p => (p, (h + 1, m, L, 0, 0)))) z (h + 1) m L 0 0 (some (h, m, L, 0, 0)))) ∧ OLQ v7 v8 s2 r ∧ TYX v7 v8 lv (m2 + 1) s2 r (o + 2) (la = 1) 1) q1 p8 (by omega) (by omega) (by omega) (fun gd o1 o2 y1 y2 => ⟨y1, o2, y2⟩)
    have e40b := q2.1.2.2.2.2.2.2.1 lv (Nat.le_refl _)
    refine forget_B c8v (by omega) (by omega) (fun v9 l9 k9 e96 f9 em9 hl9 => ?_)
    have q3 := PC_fgt (Y1 := ((((F v2 706 = F u 706) ∧ ∀ h m L, 2 * h ≤ lo + 16 → NMc u v2 lv m → L.length ≤ o → F u 712 = 0 → SGc v2 (szc u) (szc v2) s1 s2 [] h h m L 0 0 (some (h + 1, m, L, 0, 0))) ∧ OLQ v2 v7 q s1 ∧ (F v7 706 = F v2 706 ∧ szc v2 + 6 ≤ szc v7 ∧ ∃ Hp : List Nat, CHNc v7 Hp ce ∧ (∀ p, p ∈ Hp → szc v2 ≤ p ∧ p < szc v7) ∧ ∀ z h m L, z ≤ h → 2 * h ≤ lo + 1 + 16 → NMc v2 v7 lv m → L.length ≤ o → (la = 1 → L = []) → SGc v7 (szc v2) (szc v7) q s1 (Hp.map (fun p => (p, (h + 1, m, L, 0, 0)))) z (h + 1) m L 0 0 (some (h, m, L, 0, 0)))) ∧ OLQ v7 v8 s2 r ∧ TYX v7 v8 lv (m2 + 1) s2 r (o + 2) (la = 1) 1) ∧ OLQ v8 v9 r r ∧ (∀ z h m L g x, z ≤ h → h ≤ 1090 → m ≤ 40 → (F v8 706 - F u 706).toNat ≤ m → ((F v8 706 - F u 706).toNat = 0 ∨ g = 0) → SGc v9 (szc v8) (szc v9) r r [] z h m L g x (some (h, m - (F v8 706 - F u 706).toNat, L, g, x))) ∧ GDc v9 (hi - 1) r) k9 e96 f9 em9 hl9 q2 (Int.le_refl _) (by omega) (fun gw gv ol y fg => ⟨y, ol, fg, gw⟩)
    have c9v := k9.2.1
    unfold hb_Cm_receive_173
    rw [ok_bnd]
    refine ok_mono (arrive_ok (N := N) (u := v9) hce (by omega)) (fun w _ hw => ok_some.mpr ?_)
    have k9w := KM_23 c9v hw.1
    have e41 : A w 41 lv = A v9 41 lv := by show (w.2.2.1 41 lv).toInt = _; rw [hw.1.2.2.1 41 (by simp)]; rfl
    have e6w : F w 706 = F u 706 := (congrArg _ (hw.1.1 706 (by simp)) : F w 706 = F v9 706).trans e96
    have wb : WBc ps (m1 + 1) m2 + WBc ps (lo + 1) m1 + WBc ps (m2 + 1) (hi - 1) + 36 ≤ WBc ps lo hi := by
      have w1 := WB_2 hcs.1 (lo := lo + 1) (m := m1) (lo2 := m1 + 1) (hi := m2) (by omega) (by omega) (by omega) (by omega)
      have w2 := WB_2 hcs.1 (lo := lo + 1) (m := m2) (lo2 := m2 + 1) (hi := hi - 1) (by omega) (by omega) (by omega) (by omega)
      have w3 := WB_1 hcs.1 (lo := lo) (lo2 := lo + 1) (hi2 := hi - 1) (hi := hi) (by omega) (by omega) (by omega) hh
      omega
    have chn : ∀ Hp : List Nat, CHNc v7 Hp ce → (∀ p, p ∈ Hp → szc v2 ≤ p ∧ p < szc v7) → OLQ v7 v8 s2 r → OLQ v8 v9 r r → CHNc v9 Hp ce := fun Hp c1 c2 o1 o2 => CHNc_k (fun p hp => by
      have hp2 : p < (F v7 441).toNat := (c2 p hp).2
      have := c7.1
      have f1 := p8.1.2.2.1
      rw [o2.1 p (by omega), o1.1 p (by omega)]) c1
    have u2 := szc_le cu ku2
    have p9 := PC_arr (t := 0) (Y1 := TYX u w lv lo q r o (la = 1) 1) (⟨q3.1, by omega, q3.2.2.1, q3.2.2.2⟩ : PCQ u v9 lv _ 0 (hi - 1) q r _) hw.1 (fun gv y j hj => ?_) (fun gw gv y => ?_)
    · exact PC_w p9 (by omega) (by omega) (by omega) (fun _ z => z)
    · obtain ⟨⟨⟨-, -, -, -, Hp, ch, hp, -⟩, o1, -⟩, o2, -⟩ := y
      refine (hw.2 Hp (chn Hp ch hp o1 o2)).2 j (fun hj2 => ?_)
      have h5 := (hp j hj2).1
      have : (F u 441).toNat ≤ szc v2 := u2
      omega
    · obtain ⟨⟨⟨⟨-, tA⟩, oR, -, sl, Hp, ch, hp, tR⟩, o1, tB⟩, o2, fg, gd⟩ := y
      have ar := hw.2 Hp (chn Hp ch hp o1 o2)
      intro h m L g x p
      have u12 : F u 712 = 0 := by
        rcases h12 with h12 | h12
        · exact h12
        · have := q3.1.2.2.2.1
          have := gd.1
          omega
      have gg : g = 0 := by
        by_cases z : g = 0
        · exact z
        · have := p.2.2.2.2.1.mp z
          rw [u12] at this
          exact absurd this (by decide)
      have xx := p.2.2.2.2.2 gg
      subst gg xx
      refine ⟨fun z => absurd rfl z, ?_⟩
      have l15 := gd.2.2.2.1
      have n1 := p.2.1.1
      have n2 := p.2.1.2
      have hpl := p.1
      have a41a := p7.1.2.2.2.2.2.2.2.2
      have a41b := p8.1.2.2.2.2.2.2.2.2
      have a41c := k9.2.2.2.2.2.2.2.2
      have a40 := ku2.2.2.2.2.2.2.1 lv (Nat.le_refl _)
      have a40c := ku7.2.2.2.2.2.2.1 lv (Nat.le_refl _)
      have c88 := c8v.2.2.2.2.2.2.2.2
      have kn : ((knc v7 v8 : Nat) : Int) = F v8 706 - F v7 706 := by show (((F v8 706 - F v7 706).toNat : Nat) : Int) = _; omega
      have iA := tA h m L hpl ⟨n1, by omega⟩ p.2.2.1 u12
      have iR := tR h h m L (Nat.le_refl _) (by omega) ⟨by rw [a40, e26]; exact n1, by rw [a40, e26]; omega⟩ p.2.2.1 p.2.2.2.1
      obtain ⟨-, iB⟩ := tB h m L 0 0 ⟨by omega, ⟨by rw [a40c]; omega, by rw [a40c]; omega⟩, by have := p.2.2.1; omega, p.2.2.2.1, ⟨fun z => absurd rfl z, fun z => by rw [ku7.2.2.2.2.2.1.1, u12] at z; exact absurd z (by decide)⟩, fun _ => rfl⟩
      have iF := fg h (h + 1) (m + knc v7 v8) L 0 0 (by omega) (by omega) (by omega) (by omega) (Or.inr rfl)
      rw [show m + knc v7 v8 - (F v8 706 - F u 706).toNat = m by omega] at iF
      have jA := SG_kw c2v iA p7.1.1 oR (Nat.le_refl _) (Or.inr (Nat.le_refl _))
      have jAR := SG_seqr jA iR
      have jAR' := SG_kw c7 jAR p8.1.1 o1 (Nat.le_refl _) (Or.inl (Nat.le_refl _))
      have jB := SG_seq jAR' iB (by omega) (fun z => absurd rfl z)
      have jB' := SG_kw c8v jB k9.1 o2 (Nat.le_refl _) (Or.inl (Nat.le_refl _))
      have jF := SG_seq jB' iF (by omega) (fun z => absurd rfl z)
      rw [List.nil_append, List.append_nil] at jF
      rw [show knc u w = 0 by show (F w 706 - F u 706).toNat = 0; omega]
      have l9 := szc_le c7 p8.1
      have l10 := szc_le c8v k9
      refine SG_arc (lv := lv) (H2 := []) (Hp := Hp) c9v hw.1 ar jF (by omega) (Or.inr rfl) (fun p t hp => ?_) (fun p hp => ⟨_, List.mem_map.mpr ⟨p, hp, rfl⟩⟩) (fun p t t2 _ hp => by simp at hp)
      obtain ⟨p2, hp2, h5⟩ := List.mem_map.mp hp
      injection h5 with h6 h7
      exact ⟨h7.symm, h6 ▸ hp2⟩
end
end
section
set_option maxRecDepth 100000
def FuS (N : Nat) (S : SF_Cm_fun) (o cl : Nat) : Prop := ∀ (f : Nat) (u : MS) (lv c Q : Nat) (ps : Nat → Nat) (n lo hi a b q r : Nat), f ≤ 120 → CMP u lv c ps Q o lo → F u 712 = 0 ∨ F u 714 < 1000000000 → XPc u f o cl n lo hi a b q r → A u 16 n = 12 → b ≤ 8000 → hi ≤ c → r ≤ Q → OK (fun w _ => PXS u w lv ps lo hi q r o False 1) (S.1 u (I ((n : Nat) : Int)))
section
variable {u v w : MS} {N lv t hi lo o q r s c h m g x d a b k n f Q z la cl : Nat} {ps : Nat → Nat} {S : SF_Cm_fun} {H : List (Nat × Tyc)} {oo : Option Tyc}
theorem SG_z0 (y : SGc u a b q r H 0 h m [] 0 x oo) : SGc u a b q r H z h m [] 0 x oo := by
  obtain ⟨z1, z2, z3, T0, z4, z5⟩ := y
  exact ⟨z1, z2, z3, T0, z4, fun v T h1 h2 h3 h4 h5 h6 => z5 v T h1 h2 h3 h4 h5 ⟨h6.1, h6.2.1, fun z => absurd rfl z, h6.2.2.2⟩⟩
theorem KM_32 (h : CVI u lv) (g : FR [] [] [32] [] u w) : KMc u w lv := by
  have eF : ∀ k, F w k = F u k := fun k => congrArg _ (g.1 k (by simp))
  have eA : ∀ r k, r ≠ 32 → A w r k = A u r k := fun r k hr => by show (w.2.2.1 r k).toInt = _; rw [g.2.2.1 r (by simp; exact hr)]; rfl
  obtain ⟨g1, g2, g3, g4, g5, g6, g7, g8, g9⟩ := h
  refine ⟨FR.mo g (by simp) (by simp) (by simp) (by simp), ⟨by rw [eF]; exact g1, by rw [eF]; exact g2, by rw [eF]; exact g3, by rw [eF, eF]; exact g4, by rw [eF]; exact g5, by rw [eF]; exact g6, fun j hj => by rw [eA 40 j (by decide), eA 41 j (by decide)]; exact g7 j hj, by rw [eF, eA 40 lv (by decide)]; exact g8, by rw [eF, eA 40 lv (by decide), eA 41 lv (by decide)]; exact g9⟩, by rw [eF]; omega, by rw [eF]; omega, fun z => by rw [eF] at z; exact z, ⟨eF _, eF _⟩, fun j _ => eA 40 j (by decide), fun j _ => eA 41 j (by decide), by rw [eA 41 lv (by decide)]; omega⟩
theorem KM_711 {y : Int} (h : CVI u lv) (hy : y = 0 ∨ y = 1) (h0 : y = 0 → F u 711 = 0) : KMc u (wi u 711 y) lv := by
  have hr : RG y := ⟨by omega, by omega⟩
  have eF : ∀ k, k ≠ 711 → F (wi u 711 y) k = F u k := fun k hk => by rw [F_wi hr.1 hr.2, if_neg hk]
  have e1 : F (wi u 711 y) 711 = y := by rw [F_wi hr.1 hr.2, if_pos rfl]
  obtain ⟨g1, g2, g3, g4, g5, g6, g7, g8, g9⟩ := h
  exact ⟨FR.wi FR.rf (by simp), ⟨by rw [eF 441 (by decide)]; exact g1, by rw [eF 706 (by decide)]; exact g2, by rw [eF 709 (by decide)]; exact g3, by rw [eF 712 (by decide), eF 713 (by decide)]; exact g4, by rw [eF 714 (by decide)]; exact g5, by rw [e1]; exact hy, g7, by rw [eF 706 (by decide)]; exact g8, by rw [eF 706 (by decide)]; exact g9⟩, by rw [eF 441 (by decide)]; omega, by rw [eF 714 (by decide)]; omega, fun z => h0 (by rw [e1] at z; exact z), ⟨eF _ (by decide), eF _ (by decide)⟩, fun _ _ => rfl, fun _ _ => rfl, Int.le_refl _⟩
theorem fun_in {P : Nat} {v1 w32 w40 w43 w48 x0 : MS} (cu : CVI u lv) (hl : lv ≤ 25) (k1 : EMc (wi u 712 0) v1 [18, 0]) (hk : k ≤ 6) (h32 : w32 = wa v1 30 P ((k : Nat) : Int)) (h40 : w40 = wa w32 31 P (F v1 441)) (h43 : w43 = wi w40 709 ((lv + 1 : Nat) : Int)) (h48 : w48 = wa w43 40 (lv + 1) (F u 706)) (hx : x0 = wa w48 41 (lv + 1) 0) : KMF u x0 ∧ CVI x0 (lv + 1) ∧ F x0 712 = 0 ∧ (F x0 706 = F u 706 ∧ F x0 441 = F v1 441 ∧ F x0 714 = F u 714 ∧ F x0 711 = F u 711 ∧ F x0 713 = F u 713) ∧ (A x0 40 (lv + 1) = F u 706 ∧ (∀ j, j ≠ lv + 1 → A x0 40 j = A u 40 j ∧ A x0 41 j = A u 41 j)) ∧ (A x0 30 P = ((k : Nat) : Int) ∧ A x0 31 P = F v1 441 ∧ (∀ pl, pl ≠ P → A x0 30 pl = A u 30 pl ∧ A x0 31 pl = A u 31 pl) ∧ ∀ pl, A x0 32 pl = A u 32 pl) ∧ ∀ j, A x0 23 j = A v1 23 j := by
  obtain ⟨g1, g2, g3, g4, g5, g6, g7, g8, g9⟩ := cu
  have f0 : ∀ j, j ≠ 712 → F (wi u 712 0) j = F u j := fun j hj => by rw [F_wi (by decide) (by decide), if_neg hj]
  have f02 : F (wi u 712 0) 712 = 0 := by rw [F_wi (by decide) (by decide), if_pos rfl]
  have fa : ∀ r j, A (wi u 712 0) r j = A u r j := fun _ _ => rfl
  have m0 : KMF u (wi u 712 0) := FR.wi FR.rf (by simp)
  generalize wi u 712 0 = u0 at k1 f0 f02 fa m0
  have f1 : ∀ j, j ≠ 712 → j ≠ 441 → F v1 j = F u j := fun j hj h4 => (congrArg _ (k1.1.1 j (by simp; exact h4)) : F v1 j = F u0 j).trans (f0 j hj)
  have f12 : F v1 712 = 0 := (congrArg _ (k1.1.1 712 (by simp)) : F v1 712 = F u0 712).trans f02
  have a1 : ∀ r j, r ≠ 23 → A v1 r j = A u r j := fun r j hr => by
    rw [← fa r j]
    show (v1.2.2.1 r j).toInt = _; rw [k1.1.2.2.1 r (by simp; exact hr)]; rfl
  have h441 := k1.2.1
  rw [f0 441 (by decide)] at h441
  have rl : RG ((lv + 1 : Nat) : Int) := ⟨by omega, by omega⟩
  have rk : RG ((k : Nat) : Int) := ⟨by omega, by omega⟩
  have r4 : RG (F v1 441) := FRG1 v1 441
  have r6 : RG (F u 706) := FRG1 u 706
  have m1 : KMF u v1 := FR.tr m0 (FR.mo k1.1 (by simp) (by simp) (by simp) (by simp))
  have km : KMF u x0 := by
    rw [hx, h48, h43, h40, h32]
    exact FR.wa (FR.wa (FR.wi (FR.wa (FR.wa m1 (by simp)) (by simp)) (by simp)) (by simp)) (by simp)
  have F40 : ∀ j, F w40 j = F v1 j := fun j => by rw [h40, F_wa, h32, F_wa]
  have xF : ∀ j, j ≠ 709 → F x0 j = F v1 j := fun j hj => by rw [hx, F_wa, h48, F_wa, h43, F_wi rl.1 rl.2, if_neg hj, F40]
  have x9 : F x0 709 = ((lv + 1 : Nat) : Int) := by rw [hx, F_wa, h48, F_wa, h43, F_wi rl.1 rl.2, if_pos rfl]
  have A43 : ∀ r j, A w43 r j = A w40 r j := fun r j => by rw [h43, A_wi]
  have A40 : ∀ r j, r ≠ 30 → r ≠ 31 → A w40 r j = A v1 r j := fun r j h0 h1 => by rw [h40, A_wa r4.1 r4.2, if_neg h1, h32, A_wa rk.1 rk.2, if_neg h0]
  have xA : ∀ r j, r ≠ 40 → r ≠ 41 → A x0 r j = A w40 r j := fun r j h0 h1 => by rw [hx, A_wa (by decide) (by decide), if_neg h1, h48, A_wa r6.1 r6.2, if_neg h0, A43]
  have x40 : ∀ j, A x0 40 j = if j = lv + 1 then F u 706 else A u 40 j := fun j => by
    rw [hx, A_wa (by decide) (by decide), if_neg (show ¬ (40 : Nat) = 41 by decide), h48, A_wa r6.1 r6.2, if_pos (show (40 : Nat) = 40 from rfl), A43, A40 40 j (by decide) (by decide), a1 40 j (by decide)]
  have x41 : ∀ j, A x0 41 j = if j = lv + 1 then 0 else A u 41 j := fun j => by
    rw [hx, A_wa (by decide) (by decide), if_pos (show (41 : Nat) = 41 from rfl), h48, A_wa r6.1 r6.2, if_neg (show ¬ (41 : Nat) = 40 by decide), A43, A40 41 j (by decide) (by decide), a1 41 j (by decide)]
  have y30 : ∀ j, A w40 30 j = if j = P then ((k : Nat) : Int) else A u 30 j := fun j => by
    rw [h40, A_wa r4.1 r4.2, if_neg (show ¬ (30 : Nat) = 31 by decide), h32, A_wa rk.1 rk.2, if_pos (show (30 : Nat) = 30 from rfl), a1 30 j (by decide)]
  have y31 : ∀ j, A w40 31 j = if j = P then F v1 441 else A u 31 j := fun j => by
    rw [h40, A_wa r4.1 r4.2, if_pos (show (31 : Nat) = 31 from rfl), h32, A_wa rk.1 rk.2, if_neg (show ¬ (31 : Nat) = 30 by decide), a1 31 j (by decide)]
  have e6 : F x0 706 = F u 706 := by rw [xF 706 (by decide), f1 706 (by decide) (by decide)]
  have e14 : F x0 714 = F u 714 := by rw [xF 714 (by decide), f1 714 (by decide) (by decide)]
  have e11 : F x0 711 = F u 711 := by rw [xF 711 (by decide), f1 711 (by decide) (by decide)]
  have e13 : F x0 713 = F u 713 := by rw [xF 713 (by decide), f1 713 (by decide) (by decide)]
  have e12 : F x0 712 = 0 := by rw [xF 712 (by decide), f12]
  have e4 : F x0 441 = F v1 441 := xF 441 (by decide)
  have c7 : ∀ j, j < 32 → (0 ≤ A x0 40 j ∧ A x0 40 j ≤ 4000) ∧ 0 ≤ A x0 41 j ∧ A x0 41 j ≤ 4000 := fun j hj => by
    rw [x40, x41]
    have := g7 j hj
    by_cases e : j = lv + 1
    · rw [if_pos e, if_pos e]; omega
    · rw [if_neg e, if_neg e]; exact this
  have c8 : A x0 40 (lv + 1) = F u 706 := by rw [x40, if_pos rfl]
  have c9 : A x0 41 (lv + 1) = 0 := by rw [x41, if_pos rfl]
  have cv : CVI x0 (lv + 1) := ⟨by rw [e4]; omega, by rw [e6]; exact g2, ⟨x9, by omega⟩, ⟨Or.inl e12, by rw [e13]; exact g4.2⟩, by rw [e14]; exact g5, by rw [e11]; exact g6, c7, by rw [c8, e6]; exact Int.le_refl _, by rw [c8, c9, e6]; omega⟩
  refine ⟨km, cv, e12, ⟨e6, e4, e14, e11, e13⟩, ⟨c8, fun j hj => ⟨by rw [x40, if_neg hj], by rw [x41, if_neg hj]⟩⟩, ⟨?_, ?_, fun pl hp => ⟨?_, ?_⟩, fun pl => ?_⟩, fun j => ?_⟩
  · rw [xA 30 P (by decide) (by decide), y30, if_pos rfl]
  · rw [xA 31 P (by decide) (by decide), y31, if_pos rfl]
  · rw [xA 30 pl (by decide) (by decide), y30, if_neg hp]
  · rw [xA 31 pl (by decide) (by decide), y31, if_neg hp]
  · rw [xA 32 pl (by decide) (by decide), A40 32 pl (by decide) (by decide), a1 32 pl (by decide)]
  · rw [xA 23 j (by decide) (by decide), A40 23 j (by decide) (by decide)]
end
end
section
set_option maxRecDepth 100000
section
variable {u v w : MS} {N lv t hi lo o q r s c h m g x d a b k n f Q z la cl : Nat} {ps : Nat → Nat} {S : SF_Cm_fun} {H : List (Nat × Tyc)} {oo : Option Tyc}
theorem fun_mid {x0 x1 x2 x3 x4 : MS} (cu : CVI u lv) (km : KMF u x0) (f4 : F u 441 ≤ F x0 441) (fx : F x0 706 = F u 706 ∧ F x0 714 = F u 714 ∧ F x0 711 = F u 711 ∧ F x0 713 = F u 713) (ax : ∀ j, j ≠ lv + 1 → A x0 40 j = A u 40 j ∧ A x0 41 j = A u 41 j) (p1 : KMc x0 x1 (lv + 1)) (h6 : F x1 706 = F x0 706) (e2 : EMc x1 x2 [36]) (h3 : x3 = wi x2 709 ((lv : Nat) : Int)) (h4 : x4 = wi x3 712 (F u 712)) : KMc u x4 lv ∧ F x4 441 = F x2 441 ∧ (∀ r j, A x4 r j = A x2 r j) ∧ F x4 706 = F u 706 ∧ F x4 714 = F x2 714 ∧ F x4 711 = F x2 711 := by
  obtain ⟨g1, g2, g3, g4, g5, g6, g7, g8, g9⟩ := cu
  have k2 := EMc.km p1.2.1 e2
  have k12 := KMc.tr p1 k2
  obtain ⟨m1, c2, m3, m4, m5, m6, m7, m8, m9⟩ := k12
  obtain ⟨d1, d2, d3, d4, d5, d6, d7, d8, d9⟩ := c2
  have rl : RG ((lv : Nat) : Int) := ⟨by omega, by omega⟩
  have r12 : RG (F u 712) := FRG1 u 712
  have e26 : F x2 706 = F u 706 := ((congrArg _ (e2.1.1 706 (by simp)) : F x2 706 = F x1 706).trans h6).trans fx.1
  have xF : ∀ j, j ≠ 709 → j ≠ 712 → F x4 j = F x2 j := fun j h9 h12 => by rw [h4, F_wi r12.1 r12.2, if_neg h12, h3, F_wi rl.1 rl.2, if_neg h9]
  have x9 : F x4 709 = ((lv : Nat) : Int) := by rw [h4, F_wi r12.1 r12.2, if_neg (show ¬ (709 : Nat) = 712 by decide), h3, F_wi rl.1 rl.2, if_pos rfl]
  have x12 : F x4 712 = F u 712 := by rw [h4, F_wi r12.1 r12.2, if_pos rfl]
  have xA : ∀ r j, A x4 r j = A x2 r j := fun r j => by rw [h4, A_wi, h3, A_wi]
  have x13 : F x4 713 = F u 713 := by rw [xF 713 (by decide) (by decide), m6.2, fx.2.2.2]
  have km4 : KMF u x4 := by
    rw [h4, h3]
    exact FR.wi (FR.wi (FR.tr km m1) (by simp)) (by simp)
  have a40 : ∀ j, j ≤ lv → A x4 40 j = A u 40 j := fun j hj => by rw [xA, m7 j (by omega), (ax j (by omega)).1]
  have a41 : ∀ j, j ≤ lv → A x4 41 j = A u 41 j := fun j hj => by rw [xA, m8 j (by omega), (ax j (by omega)).2]
  have e6 : F x4 706 = F u 706 := by rw [xF 706 (by decide) (by decide)]; exact e26
  refine ⟨⟨km4, ⟨by rw [xF 441 (by decide) (by decide)]; exact d1, by rw [e6]; exact g2, ⟨x9, g3.2⟩, by rw [x12, x13]; exact g4, by rw [xF 714 (by decide) (by decide)]; exact d5, by rw [xF 711 (by decide) (by decide)]; exact d6, fun j hj => by rw [xA, xA]; exact d7 j hj, by rw [e6, a40 lv (Nat.le_refl _)]; exact g8, by rw [e6, a40 lv (Nat.le_refl _), a41 lv (Nat.le_refl _)]; exact g9⟩, by rw [xF 441 (by decide) (by decide)]; omega, by rw [xF 714 (by decide) (by decide), ← fx.2.1]; exact m4, fun z => by rw [xF 711 (by decide) (by decide)] at z; rw [← fx.2.2.1]; exact m5 z, ⟨x12, x13⟩, a40, fun j hj => a41 j (by omega), by rw [a41 lv (Nat.le_refl _)]; exact Int.le_refl _⟩, xF 441 (by decide) (by decide), xA, e6, xF 714 (by decide) (by decide), xF 711 (by decide) (by decide)⟩
theorem funC_ok (hC : ClS N S o) (hN : 1000000000 ≤ N) {S2 : SF_Cm_fun} (h2 : S2.1 = hm_Cm_fun N S) : FuS N S2 o cl := by
  intro f u lv c Q ps n lo hi a b q r hf hu h12 hX e16 hb hh hQ
  rw [h2]
  cases f with
  | zero => exact hX.elim
  | succ f =>
  obtain ⟨hd, htk, ho, hX⟩ := hX
  unfold HDc at hd
  have hcs := CMP_c hu
  have cu := hu.1
  obtain ⟨k, m, ph, c1, e17, e18, e19, e20, hk, hqr, hP, hcn⟩ : ∃ k m ph c : Nat, A u 17 n = ((lo : Nat) : Int) ∧ A u 18 n = (if q < 400 then ((q : Nat) : Int) else 0) ∧ A u 19 n = ((m : Nat) : Int) ∧ A u 20 n = ((hi - 1 : Nat) : Int) ∧ k ≤ 6 ∧ q + 1 ≤ r ∧ PRTc u (PAc u f) (XPc u f (o + 2) 3) (XPc u f (o + 1) 3) k m (lo + 2) ph (ph + 1) (hi - 1) a c (q + 1) r ∧ c < n := by
    rcases hX with ⟨⟨l16, l6, -⟩, -⟩ | ⟨e, -⟩ | ⟨e, -⟩ | ⟨e, -⟩ | ⟨e, -⟩ | ⟨e, -⟩ | ⟨e, -⟩ | ⟨e, -⟩ | ⟨e, hx⟩ | ⟨e, -⟩ | ⟨e, -⟩ | ⟨e, -⟩ | ⟨e, -⟩ | ⟨e, -⟩ | ⟨e, -⟩ | ⟨e, -⟩ | ⟨e, -⟩
    all_goals first | exact hx | (exfalso; omega)
  obtain ⟨hm, mp, cp, em18, hor, hge, hlo2⟩ : (a < m ∧ m ≤ c1) ∧ ∃ mp cp : Nat, A u 18 m = ((mp : Nat) : Int) ∧ ORc u 1 (PAc u f) k mp (lo + 2) ph a cp (q + 1) (q + 1) ∧ cp ≤ c1 ∧ ph + 2 ≤ hi - 1 := by
    obtain ⟨hm, -, -, mp, cp, g, m2, c2, s, kb, mb, c3, h18, h19, h20, hc⟩ := hP
    have gb := (RW_hd (XP_bd f (o + 2) 3) h20.2).1
    unfold HDc at gb
    have gp := OR_hd (PA_bd f) h18.2
    rcases h19.2 with ⟨z1, z2, z3, z4⟩ | ⟨z1, kg, z2⟩
    · exact ⟨hm, mp, cp, h18.1, h18.2, by omega, by omega⟩
    · have gr := (RW_hd (XP_bd f (o + 1) 3) z2).1
      unfold HDc at gr
      exact ⟨hm, mp, cp, h18.1, h18.2, by omega, by omega⟩
  obtain ⟨P, hPe, hP4, hPq⟩ : ∃ P : Nat, A u 18 n = ((P : Nat) : Int) ∧ P < 400 ∧ (q < 400 → P = q) := by
    by_cases z : q < 400
    · exact ⟨q, by rw [e18, if_pos z], z, fun _ => rfl⟩
    · exact ⟨0, by rw [e18, if_neg z]; rfl, by omega, fun y => absurd y z⟩
  have gp := OR_hd (PA_bd f) hor
  have hlv := hu.2.2.2.1
  have i1 : inb (I ((n : Nat) : Int)) 8016 = true := (I_inb (by omega) (by omega)).mpr ⟨by omega, by omega⟩
  have im : inb (I ((m : Nat) : Int)) 8016 = true := (I_inb (by omega) (by omega)).mpr ⟨by omega, by omega⟩
  have iP : inb (I ((P : Nat) : Int)) 400 = true := (I_inb (by omega) (by omega)).mpr ⟨by omega, by omega⟩
  have iL : inb (I ((lo : Nat) : Int)) 4002 = true := (I_inb (by omega) (by omega)).mpr ⟨by omega, by omega⟩
  have i32 : inb (I ((lv + 1 : Nat) : Int)) 32 = true := (I_inb (by omega) (by omega)).mpr ⟨by omega, by omega⟩
  unfold hm_Cm_fun hb_Cm_fun_0
  rw [i1, ck_t, ck_t, tnI (n := n) rfl (by omega), I_A' e19, im, ck_t, tnI (n := m) rfl (by omega), I_A' em18, I_A' hPe, len_ok (PA_bd f) (by omega) (by omega) hor, bnd_so, iP, tnI (n := P) rfl (by omega)]
  refine ok_lt.mpr ?_
  have cv0 : CVI (wi u 712 0) lv := CVI_flag (Or.inl rfl) cu (Or.inl rfl)
  refine put_1 (u := wi u 712 0) (x := 18) cv0.1 ⟨by decide, by decide⟩ (fun w1 e0 => hook_B (x := 0) cv0.1.1 e0 ⟨by decide, by decide⟩ (fun v1 e1 => ?_))
  rw [ck_t]
  refine ok_lt.mpr ?_
  rw [wa_e]
  generalize h32 : wa v1 30 P ((k : Nat) : Int) = w32
  rw [ck_t]
  refine ok_lt.mpr ?_
  rw [show w32.1 441 = I (F v1 441) by rw [I_F, ← h32, F_wa], wa_e]
  generalize h40 : wa w32 31 P (F v1 441) = w40
  refine ok_lt.mpr ?_
  have f09 : F w40 709 = ((lv : Nat) : Int) := by
    rw [← h40, F_wa, ← h32, F_wa]
    have z1 : F v1 709 = F (wi u 712 0) 709 := congrArg _ (e1.1.1 709 (by simp))
    rw [z1, F_wi (by decide) (by decide), if_neg (by decide)]
    exact cu.2.2.1.1
  have hif : (if (31 : Int32) < w40.1 709 + 1 then (31 : Int32) else w40.1 709 + 1) = I ((lv + 1 : Nat) : Int) := by
    rw [I_F (k := 709), f09, lit1q, I_add, show ((lv : Nat) : Int) + 1 = ((lv + 1 : Nat) : Int) by omega, show (31 : Int32) = I 31 from rfl, if_neg]
    rw [I_lt (by decide) (by decide) (by omega) (by omega)]
    omega
  rw [hif]
  refine ok_lt.mpr ?_
  rw [wi_e]
  generalize h43 : wi w40 709 ((lv + 1 : Nat) : Int) = w43
  have f39 : w43.1 709 = I ((lv + 1 : Nat) : Int) := by rw [I_F, ← h43, F_wi (by omega) (by omega), if_pos rfl]
  have f36 : w43.1 706 = I (F u 706) := by
    rw [I_F, ← h43, F_wi (by omega) (by omega), if_neg (by decide), ← h40, F_wa, ← h32, F_wa]
    have z1 : F v1 706 = F (wi u 712 0) 706 := congrArg _ (e1.1.1 706 (by simp))
    rw [z1, F_wi (by decide) (by decide), if_neg (by decide)]
  rw [f39, i32, ck_t, f36, tnI (n := lv + 1) rfl (by omega)]
  refine ok_lt.mpr ?_
  rw [wa_e]
  generalize h48 : wa w43 40 (lv + 1) (F u 706) = w48
  have f89 : w48.1 709 = I ((lv + 1 : Nat) : Int) := by rw [← h48]; exact f39
  rw [f89, i32, ck_t, tnI (n := lv + 1) rfl (by omega)]
  refine ok_lt.mpr ?_
  rw [lit0q, wa_e]
  generalize hx0 : wa w48 41 (lv + 1) 0 = x0
  obtain ⟨km0, c0, f12, ⟨f6, f4, f14, f11, f13⟩, ⟨a40, ax⟩, ⟨a30, a31, apl, a32⟩, a23⟩ := fun_in (k := k) (P := P) cu (by omega) e1 hk h32.symm h40.symm h43.symm h48.symm hx0.symm
  have e1l := e1.2.1
  have e1u : F (wi u 712 0) 441 = F u 441 := by rw [F_wi (by decide) (by decide), if_neg (by decide)]
  rw [e1u] at e1l
  rw [ck_t, I_A' (show A x0 17 n = ((lo : Nat) : Int) by rw [km0.A (by simp)]; exact e17), iL, ck_t, tnI (n := lo) rfl (by omega), I_A (k := 8), ok_bnd]
  have hu6 := hu.2.2.2.2
  have hv0 : CMP x0 (lv + 1) c ps Q (o + 1) (lo + 2) := ⟨c0, CMX_k hu.2.1 km0, by rw [f13]; exact hu.2.2.1, by omega, by omega⟩
  refine ok_mono (hC f k x0 (lv + 1) c Q ps m (lo + 2) ph (ph + 1) (hi - 1) a c1 (q + 1) r (A x0 8 lo) (by omega) hv0 f12 (PRT_k (PA_k (Nat.le_refl _)) (XP_k (Nat.le_refl _) (Nat.le_refl _)) (XP_k (Nat.le_refl _) (Nat.le_refl _)) (PA_bd f) (XP_bd f (o + 2) 3) (XP_bd f (o + 1) 3) hP (KN_m km0)) (by omega) (by omega) (by omega) hQ hk (A_r _ _ _)) (fun x1 _ p1 => ?_)
  have c1v := p1.1.2.1
  have p16 := p1.2.1
  refine put_1 (x := 36) c1v.1 ⟨by decide, by decide⟩ (fun x2 e2 => ?_)
  have k2 := EMc.km c1v e2
  have f29 : x2.1 709 = I ((lv + 1 : Nat) : Int) := by rw [I_F, k2.2.1.2.2.1.1]
  rw [f29, i32, ck_t, tnI (n := lv + 1) rfl (by omega), lit1q, I_sub, show ((lv + 1 : Nat) : Int) - 1 = ((lv : Nat) : Int) by omega]
  refine ok_lt.mpr ?_
  rw [wi_e]
  generalize h3 : wi x2 709 ((lv : Nat) : Int) = x3
  have u12 := cu.2.2.2.1.1
  rw [I_F (w := u) (k := 712)]
  refine ok_ck.mpr ⟨by rcases u12 with z | z <;> rw [z] <;> decide, ok_lt.mpr ?_⟩
  rw [wi_e]
  generalize h4 : wi x3 712 (F u 712) = x4
  obtain ⟨km4, m4, mA, m6, m14, m11⟩ := fun_mid cu km0 (by rw [f4]; exact e1l.1) ⟨f6, f14, f11, f13⟩ ax p1.1 (by omega) e2 h3.symm h4.symm
  have c4 := km4.2.1
  have cur0 := cu.1
  rw [ok_bnd]
  refine ok_mono (arrive_ok (N := N) (u := x4) (c := F v1 441 - 1) ⟨by omega, by omega⟩ (by omega)) (fun x5 _ h5 => ?_)
  have k5 := KM_23 c4 h5.1
  have c5 := k5.2.1
  have f54 : F x5 441 = F x4 441 := congrArg _ (h5.1.1 441 (by simp))
  have a5 : ∀ r j, r ≠ 23 → A x5 r j = A x4 r j := fun r j hr => by show (x5.2.2.1 r j).toInt = _; rw [h5.1.2.2.1 r (by simp; exact hr)]; rfl
  refine put_1 (x := 6) c5.1 ⟨by decide, by decide⟩ (fun w6 e5 => put_B (x := ((P : Nat) : Int)) c5.1.1 e5 ⟨by omega, by omega⟩ (fun x6 e6 => ?_))
  have k6 := EMc.km c5 e6
  have c6 := k6.2.1
  have r64 : RG (F x6 441) := FRG1 x6 441
  rw [ck_t]
  refine ok_lt.mpr ?_
  rw [I_F (w := x6) (k := 441), wa_e]
  have f7 : FR [] [] [32] [] x6 (wa x6 32 P (F x6 441)) := FR.wa FR.rf (by simp)
  have f74 : F (wa x6 32 P (F x6 441)) 441 = F x6 441 := F_wa
  have a7 : ∀ r j, r ≠ 32 → A (wa x6 32 P (F x6 441)) r j = A x6 r j := fun r j hr => by rw [A_wa r64.1 r64.2, if_neg hr]
  have a7P : A (wa x6 32 P (F x6 441)) 32 P = F x6 441 := by rw [A_wa r64.1 r64.2, if_pos rfl, if_pos rfl]
  have a7n : ∀ j, j ≠ P → A (wa x6 32 P (F x6 441)) 32 j = A x6 32 j := fun j hj => by rw [A_wa r64.1 r64.2, if_pos rfl, if_neg hj]
  generalize wa x6 32 P (F x6 441) = x7 at f7 f74 a7 a7P a7n ⊢
  have k7 := KM_32 c6 f7
  have c7 := k7.2.1
  refine put_1 (x := 0) c7.1 ⟨by decide, by decide⟩ (fun x8 e8 => ?_)
  have k8 := EMc.km c7 e8
  have c8 := k8.2.1
  have ku8 := KMc.tr (KMc.tr (KMc.tr (KMc.tr km4 k5) k6) k7) k8
  rw [ck_t, ck_t, I_A' (show A x8 17 n = ((lo : Nat) : Int) by rw [ku8.1.A (by simp)]; exact e17), I_A' (show A x8 20 n = ((hi - 1 : Nat) : Int) by rw [ku8.1.A (by simp)]; exact e20), ok_bnd]
  refine ok_mono (holdN_ok (N := N) (fr := lo) (to := hi - 1) c8 (by omega) (by omega) hN) (fun x9 r9 h9 => ?_)
  obtain ⟨⟨l9, e9⟩, rfl⟩ := h9
  have k9 := EMc.km c8 e9
  have c9 := k9.2.1
  have c8r := c8.1
  have c9r := c9.1
  have h89 := k9.2.2.1
  have a9 : ∀ r j, r ≠ 23 → A x9 r j = A x8 r j := fun r j hr => by show (x9.2.2.1 r j).toInt = _; rw [e9.1.2.2.1 r (by simp; exact hr)]; rfl
  have a8 : ∀ r j, r ≠ 23 → A x8 r j = A x7 r j := fun r j hr => by show (x8.2.2.1 r j).toInt = _; rw [e8.1.2.2.1 r (by simp; exact hr)]; rfl
  have a6 : ∀ r j, r ≠ 23 → A x6 r j = A x5 r j := fun r j hr => by show (x6.2.2.1 r j).toInt = _; rw [e6.1.2.2.1 r (by simp; exact hr)]; rfl
  have a9P : A x9 32 P = F x6 441 := by rw [a9 32 P (by decide), a8 32 P (by decide), a7P]
  rw [ck_t, I_A' a9P]
  obtain ⟨x10, hs, fs, ks, ksp⟩ := setC_e (N := N) (u := x9) (c := F x6 441) (x := F x9 441 - F x8 441) r64 ⟨by omega, by omega⟩
  rw [hs, bnd_so]
  have k10 := KM_23 c9 fs
  have c10 := k10.2.1
  have ku10 := KMc.tr (KMc.tr ku8 k9) k10
  have f10 : ∀ j, F x10 j = F x9 j := fun j => congrArg _ (fs.1 j (by simp))
  have a10 : ∀ r j, r ≠ 23 → A x10 r j = A x9 r j := fun r j hr => by show (x10.2.2.1 r j).toInt = _; rw [fs.2.2.1 r (by simp; exact hr)]; rfl
  have a2n : 0 ≤ A x2 41 (lv + 1) := ((k2.2.1.2.2.2.2.2.2.1 (lv + 1) (by omega)).2).1
  have fin : ∀ y : Int, (y = 0 ∨ y = 1) → (y = 0 → F x10 711 = 0 ∧ A x2 41 (lv + 1) + (F x9 441 - F x8 441) ≤ 40) → OK (fun w _ => PXS u w lv ps lo hi q r o False 1) (hb_Cm_fun_308 N S () x10 (I y)) := fun y hy hy0 => by
    unfold hb_Cm_fun_308
    refine ok_ck.mpr ⟨by rcases hy with rfl | rfl <;> decide, ok_lt.mpr (ok_some.mpr ?_)⟩
    rw [wi_e]
    have hyr : RG y := ⟨by omega, by omega⟩
    have kw := KM_711 c10 hy (fun z => (hy0 z).1)
    have kuw := KMc.tr ku10 kw
    have wF : ∀ j, j ≠ 711 → F (wi x10 711 y) j = F x10 j := fun j hj => by rw [F_wi hyr.1 hyr.2, if_neg hj]
    have w11 : F (wi x10 711 y) 711 = y := by rw [F_wi hyr.1 hyr.2, if_pos rfl]
    have wA : ∀ r j, A (wi x10 711 y) r j = A x10 r j := fun _ _ => rfl
    generalize wi x10 711 y = w at kw kuw wF w11 wA ⊢
    have e6w : F w 706 = F u 706 := by
      have z1 : F x9 706 = F x8 706 := congrArg _ (e9.1.1 706 (by simp))
      have z2 : F x8 706 = F x7 706 := congrArg _ (e8.1.1 706 (by simp))
      have z3 : F x7 706 = F x6 706 := congrArg _ (f7.1 706 (by simp))
      have z4 : F x6 706 = F x5 706 := congrArg _ (e6.1.1 706 (by simp))
      have z5 : F x5 706 = F x4 706 := congrArg _ (h5.1.1 706 (by simp))
      rw [wF 706 (by decide), f10, z1, z2, z3, z4, z5, m6]
    have l2 := e2.2.1.2.2
    have l6 := e6.2.1.2.2
    have l8 := e8.2.1.2.2
    have l1 := e1l.2.2
    simp only [List.length_append, List.length_cons, List.length_nil] at l2 l6 l8 l1
    have w4 : F w 441 = F x9 441 := by rw [wF 441 (by decide), f10]
    refine ⟨kuw, by omega, fun z => ?_, fun gd => ?_⟩
    · have y0 : y = 0 := by rw [← w11]; exact z
      obtain ⟨z1, z2⟩ := hy0 y0
      have z11 : F x1 711 = 0 := by
        have q1 : F x9 711 = 0 := by rw [← f10]; exact z1
        have q4 := k5.2.2.2.2.1 (k6.2.2.2.2.1 (k7.2.2.2.2.1 (k8.2.2.2.2.1 (k9.2.2.2.2.1 q1))))
        rw [m11] at q4
        exact k2.2.2.2.2.1 q4
      have q2 := p1.2.2.1 z11
      have wb := WB_1 hcs.1 (lo := lo) (lo2 := lo + 2) (hi2 := hi - 1) (hi := hi) (by omega) (by omega) (by omega) hh
      omega
    · have y0 : y = 0 := by rw [← w11]; exact gd.2.1
      obtain ⟨z1, z2⟩ := hy0 y0
      have g4 := gd.2.2.1
      have hP2 : P = q := hPq (by have := gd.2.2.2.2; omega)
      subst hP2
      have t6 := k6.2.2.1
      have t7 := k7.2.2.1
      have t8 := k8.2.2.1
      have t5 := k5.2.2.1
      have t2 := k2.2.2.1
      have t1 := p1.1.2.2.1
      have s1 := (e1.2.2.2 (by omega)).1
      have w1 := (e1.2.2.2 (by omega)).2
      have s2 := (e2.2.2.2 (by omega))
      have s6 := (e6.2.2.2 (by omega))
      have s8 := (e8.2.2.2 (by omega))
      rw [e1u] at s1 w1
      simp only [List.length_append, List.length_cons, List.length_nil] at s1
      have s2a := s2.1
      have s6a := s6.1
      have s8a := s8.1
      simp only [List.length_append, List.length_cons, List.length_nil] at s2a s6a s8a
      have cur := cu.1
      have gd1 : GDc x1 (hi - 1) r := by
        have q14 := gd.1
        have n1 := kw.2.2.2.1
        have n2 := k10.2.2.2.1
        have n3 := k9.2.2.2.1
        have n4 := k8.2.2.2.1
        have n5 := k7.2.2.2.1
        have n6 := k6.2.2.2.1
        have n7 := k5.2.2.2.1
        have n8 := k2.2.2.2.1
        have n9 := c1v.2.2.2.2.1
        have z11 : F x1 711 = 0 := by
          have q1 : F x9 711 = 0 := by rw [← f10]; exact z1
          have q4 := k5.2.2.2.2.1 (k6.2.2.2.2.1 (k7.2.2.2.2.1 (k8.2.2.2.2.1 (k9.2.2.2.2.1 q1))))
          rw [m11] at q4
          exact k2.2.2.2.2.1 q4
        exact ⟨by omega, z11, by omega, by have := gd.2.2.2.1; omega, gd.2.2.2.2⟩
      obtain ⟨o1, -, sl1, ty⟩ := p1.2.2.2 gd1
      have S0 : szc x0 = szc u + 2 := by show (F x0 441).toNat = (F u 441).toNat + 2; omega
      have S1 : F x1 441 = ((szc x1 : Nat) : Int) := by have := c1v.1; show F x1 441 = (((F x1 441).toNat : Nat) : Int); omega
      have SU : F u 441 = ((szc u : Nat) : Int) := by show F u 441 = (((F u 441).toNat : Nat) : Int); omega
      have sl : szc u + 2 < szc x1 := by rw [← S0]; exact sl1
      obtain ⟨hc, hhc⟩ : ∃ hc : Nat, F x9 441 - F x8 441 = ((hc : Nat) : Int) := ⟨(F x9 441 - F x8 441).toNat, by omega⟩
      have F6 : F x6 441 = ((szc x1 + 3 : Nat) : Int) := by omega
      have SW : szc w = szc x1 + 4 + hc := by show (F w 441).toNat = szc x1 + 4 + hc; omega
      have ch : CHNc x4 [szc u + 1] (F v1 441 - 1) := by
        refine ⟨by omega, ⟨by omega, by omega⟩, fun q hq => absurd hq (by simp), ?_⟩
        show A x4 23 (szc u + 1) = 0
        rw [mA, e2.2.2.1 (szc u + 1) (by omega), o1.1 (szc u + 1) (by rw [f4]; omega), a23]
        exact w1 1 (by simp)
      have ar := h5.2 _ ch
      have cd4 : ∀ j, j ≠ szc u + 1 → A x5 23 j = A x4 23 j := fun j hj => ar.2 j (by simp; exact hj)
      have cdw : ∀ j, j < szc x1 + 3 → A w 23 j = A x6 23 j := fun j hj => by
        rw [wA, ks j (by omega), e9.2.2.1 j (by omega), e8.2.2.1 j (by omega), a7 23 j (by decide)]
      have cd1 : ∀ j, j < szc x1 → j ≠ szc u + 1 → A w 23 j = A x1 23 j := fun j hj h1 => by
        rw [cdw j (by omega), e6.2.2.1 j (by omega), cd4 j h1, mA, e2.2.2.1 j (by omega)]
      have cd0 : ∀ j, j < szc u + 2 → j ≠ szc u + 1 → A w 23 j = A v1 23 j := fun j hj h1 => by
        rw [cd1 j (by omega) h1, o1.1 j (by rw [f4]; omega), a23]
      have plw : ∀ r j, r ≠ 23 → r ≠ 32 → A w r j = A x1 r j := fun r j hr h3 => by
        rw [wA, a10 r j hr, a9 r j hr, a8 r j hr, a7 r j h3, a6 r j hr, a5 r j hr, mA]
        show (x2.2.2.1 r j).toInt = _; rw [e2.1.2.2.1 r (by simp; exact hr)]; rfl
      have pl32 : ∀ j, j ≠ P → A w 32 j = A x1 32 j := fun j hj => by
        rw [wA, a10 32 j (by decide), a9 32 j (by decide), a8 32 j (by decide), a7n j hj, a6 32 j (by decide), a5 32 j (by decide), mA]
        show (x2.2.2.1 32 j).toInt = _; rw [e2.1.2.2.1 32 (by simp)]; rfl
      refine ⟨⟨fun j hj => ?_, fun pl hp => ?_⟩, fun h m L g x p => ⟨fun _ => e6w, ?_⟩⟩
      · rw [cd0 j (by omega) (by omega), e1.2.2.1 j (by rw [e1u]; exact hj)]
        rfl
      · obtain ⟨q1, q2, q3⟩ := o1.2 pl (by omega)
        obtain ⟨q4, q5⟩ := apl pl (by omega)
        exact ⟨by rw [plw 30 pl (by decide) (by decide), q1, q4], by rw [plw 31 pl (by decide) (by decide), q2, q5], by rw [pl32 pl (by omega), q3, a32]⟩
      · have v12 : F u 712 = 0 := by
          rcases h12 with z | z
          · exact z
          · have := kuw.2.2.2.1
            have := gd.1
            omega
        have gg : g = 0 := by
          by_cases z : g = 0
          · exact z
          · have := p.2.2.2.2.1.mp z
            rw [v12] at this
            exact absurd this (by decide)
        have xx := p.2.2.2.2.2 gg
        subst gg xx
        have pb := PRE_b kuw.2.1 kuw (by omega) p
        have e41 : A x2 41 (lv + 1) = A x1 41 (lv + 1) := by show (x2.2.2.1 41 (lv + 1)).toInt = _; rw [e2.1.2.2.1 41 (by simp)]; rfl
        have l15 := gd.2.2.2.1
        obtain ⟨q1, q2, q3⟩ := o1.2 P (by omega)
        have yb := ty hc ⟨by rw [a40, f6]; omega, by rw [a40, f6]; omega⟩
        rw [S0] at yb
        have tb : TBLc x1 w (P + 1) r := by
          have kf : KMF x1 w := by
            have z1 : KMF x2 x4 := by rw [← h4, ← h3]; exact FR.wi (FR.wi FR.rf (by simp)) (by simp)
            exact KMF.tr k2.1 (KMF.tr z1 (KMF.tr k5.1 (KMF.tr k6.1 (KMF.tr k7.1 (KMF.tr k8.1 (KMF.tr k9.1 (KMF.tr k10.1 kw.1)))))))
          exact ⟨kf.F (by simp), kf.F (by simp), by rw [kf.F (by simp)]; omega, fun f => kf.A (by simp), fun pl h1 h2 => ⟨plw 30 pl (by decide) (by decide), plw 31 pl (by decide) (by decide), pl32 pl (by omega)⟩⟩
        have yb2 : SGc w (szc u + 2) (szc x1) (P + 1) r [] k k hc [] 0 0 (some (k, hc, [], 0, 0)) := SG_z0 (SG_k yb (fun j j1 j2 _ => cd1 j j2 (by omega)) tb)
        have e0 : knc u w = 0 := by show (F w 706 - F u 706).toNat = 0; omega
        have F449 := hu.2.1.2.2.2
        have j := SG_fun (u := w) (a := szc u) (c := szc x1) (q := P) (r := r) (n := k) (k := hc) (z := h) (h := h) (m := m) (L := L) (Nat.le_refl _) (by omega) (by omega) (by omega) (by omega) (by rw [cd0 _ (by omega) (by omega)]; exact w1 0 (by simp)) (by
          rw [cdw _ (by omega), e6.2.2.1 _ (by omega), ar.1 (szc u + 1) (by simp), m4]
          omega) yb2 (by
          rw [cdw _ (by omega), e6.2.2.1 _ (by omega), cd4 _ (by omega), mA]
          exact s2.2 0 (by simp)) (by
          rw [cdw _ (by omega)]
          have z0 : (F x5 441).toNat = szc x1 + 1 := by omega
          have := s6.2 0 (by simp)
          rw [z0] at this
          exact this) (by
          rw [cdw _ (by omega)]
          have z0 : (F x5 441).toNat = szc x1 + 1 := by omega
          have := s6.2 1 (by simp)
          rw [z0] at this
          exact this) (by rw [wA, ksp (szc x1 + 3) F6 (by omega)]; exact hhc) (by
          rw [kuw.1.F (by simp), F449]
          have := gd.2.2.2.2
          split <;> omega) (by rw [plw 30 P (by decide) (by decide), q1]; exact a30) (by rw [plw 31 P (by decide) (by decide), q2, a31]; omega) (by rw [wA, a10 32 P (by decide), a9P]; exact F6)
        rw [e0, SW]
        exact j
  rw [show (40 : Int32) = I 40 from rfl, I_A (w := x2) (k := 41), I_add]
  have b41 := (k2.2.1.2.2.2.2.2.2.1 (lv + 1) (by omega)).2
  unfold hb_Cm_fun_303
  refine k_F (y := 0) rfl ⟨by decide, by decide⟩ (fun z1 => k_le ⟨by omega, by omega⟩ ⟨by decide, by decide⟩ (fun z2 => fin 0 (Or.inl rfl) (fun _ => ⟨z1, z2⟩)) (fun _ => fin 1 (Or.inr rfl) (fun z => absurd z (by decide)))) (fun _ => fin 1 (Or.inr rfl) (fun z => absurd z (by decide)))
end
end
section
set_option maxRecDepth 100000
section
variable {u v w : MS} {N lv t hi lo o q r s c h m g x d a b k n f Q z la cl : Nat} {ps : Nat → Nat} {S : SF_Cm_fun} {L : List Nat} {W : Int} {ce : Int} {th : Int}
theorem no_g (p : PREc u w lv lo o (la = 1) h m L g x) (u12 : F u 712 = 0) : g = 0 ∧ x = 0 := by
  have gg : g = 0 := by
    by_cases z : g = 0
    · exact z
    · have := p.2.2.2.2.1.mp z
      rw [u12] at this
      exact absurd this (by decide)
  exact ⟨gg, p.2.2.2.2.2 gg⟩
theorem ends_okc {K : MS → Unit → Prop} {fn : MS → Unit → Option (MS × Unit)} {lo2 d1 : Nat} {y : Int} (hN : 24002 ≤ N) (cu : CVI u lv) (pu : PCQ u v lv W t hi q s (TYX u v lv lo q s o False d1)) (h12 : F u 712 = 0 ∨ F v 714 < 1000000000) (pv : PCQ v w lv (WBc ps lo2 hi) 0 hi s r (PTYc v w lv lo2 s r o th (la = 1) ce)) (hce : RG ce) (hth : (th = 15 ∧ y = 37 ∧ d1 = 1) ∨ (th = 0 ∧ y = 38 ∧ d1 = 0)) (hq : q ≤ s) (hs : s ≤ r) (hlo : lo + 2 * d1 ≤ lo2) (hlh : lo2 ≤ hi) (kk : ∀ w2, PCQ u w2 lv (W + WBc ps lo2 hi + 1) t hi q r (TYX u w2 lv lo q r o (la = 1) 1) → OK K (fn w2 ())) : OK K (bnd (hm_Co_put N w (I y)) (fun u57 _ => bnd (hm_Co_arrive N u57 (I ce)) fn)) := by
  have cv := pu.1.2.1
  have cw := pv.1.2.1
  have h6 := pu.2.1
  have h6v := pv.2.1
  refine put_1 (x := y) cw.1 ⟨by omega, by omega⟩ (fun w1 e1 => ?_)
  have k1 := EMc.km cw e1
  have c1 := k1.2.1
  have e16 : F w1 706 = F w 706 := congrArg _ (e1.1.1 706 (by simp))
  rw [ok_bnd]
  refine ok_mono (arrive_ok (N := N) (u := w1) hce hN) (fun w2 _ hw => kk w2 ?_)
  have q1 := PC_seq (Y := TYX u v lv lo q s o False d1 ∧ OLQ v w s r ∧ PTYc v w lv lo2 s r o th (la = 1) ce) pu pv (Nat.le_refl _) hq hs (fun gd o1 o2 y1 y2 => ⟨y1, o2, y2⟩)
  have q2 := PC_seq (Y := (TYX u v lv lo q s o False d1 ∧ OLQ v w s r ∧ PTYc v w lv lo2 s r o th (la = 1) ce) ∧ szc w1 = szc w + 1 ∧ A w1 23 (szc w) = y ∧ OLQ w w1 r r ∧ GDc w1 hi r) q1 (PC_em (hi := hi) (q := r) cw e1) (Nat.le_refl _) (by omega) (Nat.le_refl _) (fun gd o1 o2 y1 y2 => ⟨y1, y2.1, y2.2 0 (by simp), o2, gd⟩)
  have uv := szc_le cu pu.1
  have chn : ∀ Hp : List Nat, CHNc w Hp ce → (∀ p, p ∈ Hp → szc v ≤ p ∧ p < szc w) → OLQ w w1 r r → CHNc w1 Hp ce := fun Hp z1 z2 z3 => CHNc_k (fun p hp => z3.1 p (by have h5 : p < (F w 441).toNat := (z2 p hp).2; have := cw.1; omega)) z1
  have e41 : A w2 41 lv = A w1 41 lv := by show (w2.2.2.1 41 lv).toInt = _; rw [hw.1.2.2.1 41 (by simp)]; rfl
  have e6w : F w2 706 = F w1 706 := congrArg _ (hw.1.1 706 (by simp))
  refine PC_w (PC_arr (Y1 := TYX u w2 lv lo q r o (la = 1) 1) q2 hw.1 (fun gv y j hj => ?_) (fun gw gv y2 => ?_)) (by simp) (by omega) (Nat.le_refl _) (fun _ z => z)
  · obtain ⟨⟨-, -, -, Hp, ch, hp, -⟩, -, -, o3, -⟩ := y
    refine (hw.2 Hp (chn Hp ch hp o3)).2 j (fun hj2 => ?_)
    have h5 := (hp j hj2).1
    have : (F u 441).toNat ≤ szc v := uv
    omega
  · obtain ⟨⟨tX, o2, e6, Hp, ch, hp, tP⟩, s3, w3, o3, gd⟩ := y2
    have ar := hw.2 Hp (chn Hp ch hp o3)
    have l15 := gd.2.2.2.1
    intro h m L g x p
    have u12 : F u 712 = 0 := by
      rcases h12 with h12 | h12
      · exact h12
      · have := pv.1.2.2.2.1
        have := k1.2.2.2.1
        have := gd.1
        omega
    obtain ⟨rfl, rfl⟩ := no_g p u12
    refine ⟨fun z => absurd rfl z, ?_⟩
    obtain ⟨p1, ⟨p2, p3⟩, p4, p5, -⟩ := p
    have a41a := pv.1.2.2.2.2.2.2.2.2
    have a41b := k1.2.2.2.2.2.2.2.2
    have a40 := pu.1.2.2.2.2.2.2.1 lv (Nat.le_refl _)
    have kn : ((knc u v : Nat) : Int) = F v 706 - F u 706 := by show (((F v 706 - F u 706).toNat : Nat) : Int) = _; omega
    have c8 := cw.2.2.2.2.2.2.2.2
    have a40w := pv.1.2.2.2.2.2.2.1 lv (Nat.le_refl _)
    have hm40 : m + knc u v ≤ 40 := by omega
    obtain ⟨-, i1⟩ := tX h m L 0 0 ⟨p1, ⟨p2, by omega⟩, p4, fun z => z.elim, ⟨fun z => absurd rfl z, fun z => by rw [u12] at z; exact absurd z (by decide)⟩, fun _ => rfl⟩
    have dd : ddc th = d1 := by
      rcases hth with ⟨z1, -, z3⟩ | ⟨z1, -, z3⟩
      · rw [z3]; unfold ddc; rw [if_pos z1]
      · rw [z3]; unfold ddc; rw [if_neg (by omega)]
    have i2 := tP h (h + d1) (m + knc u v) L 0 ⟨by rw [dd]; exact Nat.le_refl _, by omega, ⟨by rw [a40]; omega, by rw [a40]; omega⟩, p4, p5, fun z => by omega, fun _ => rfl⟩
    rw [dd, show h + d1 - d1 + 1 = h + 1 by omega] at i2
    have i3 : SGc w1 (szc w) (szc w1) r r [] h (h + d1) (m + knc u v) L 0 0 none := by
      rw [s3]
      rcases hth with ⟨-, z2, z3⟩ | ⟨-, z2, z3⟩
      · exact SG_noca (by omega) (by omega) hm40 (w3.trans z2) (by omega)
      · exact SG_nocl (by omega) (by omega) hm40 (Or.inr (w3.trans z2))
    have j1 := SG_kw cv i1 pv.1.1 o2 (Nat.le_refl _) (Or.inl (Nat.le_refl _))
    have j12 := SG_seq j1 i2 (by omega) (fun z => absurd rfl z)
    have j12' := SG_kw cw j12 k1.1 o3 (Nat.le_refl _) (Or.inl (Nat.le_refl _))
    have j13 := SG_seq j12' i3 (by omega) (fun z => absurd rfl z)
    rw [List.nil_append] at j13
    have vw := szc_le cv pv.1
    have ek : knc u w2 = knc u v := by show (F w2 706 - F u 706).toNat = (F v 706 - F u 706).toNat; rw [e6w, e16, e6]
    rw [ek]
    refine SG_arc (lv := lv) (H2 := []) (Hp := Hp) c1 hw.1 ar j13 (by omega) (Or.inl rfl) (fun p t hp => ?_) (fun p hp => ⟨_, List.mem_map.mpr ⟨p, hp, rfl⟩⟩) (fun p t t2 _ hp => by simp at hp)
    obtain ⟨p2, hp2, h5⟩ := List.mem_map.mp hp
    injection h5 with h6 h7
    exact ⟨h7.symm, h6 ▸ hp2⟩
theorem funOf_okc (hu : CMP u lv c ps Q o lo) (hn : n ≤ 8000) (htk : TKc u n lo hi) (hhi : hi = lo + 4) (hh : hi ≤ c) (hN : 1000 ≤ N) : OK (fun w _ => PXS u w lv ps lo hi q q o (la = 1) 1) (hm_Cm_funOf N u (I ((n : Nat) : Int))) := by
  have cu := hu.1
  have hcs := CMP_c hu
  obtain ⟨tk, e17, ht1, ht2⟩ := htk
  have i1 : inb (I ((n : Nat) : Int)) 8016 = true := (I_inb (by omega) (by omega)).mpr ⟨by omega, by omega⟩
  have w0 : 12 * ((hi - lo : Nat) : Int) ≤ WBc ps lo hi := WB_0
  have e48 : ∀ (v : MS) (y : Int), KMc u v lv → FR [714] [] [42] [] u v → RG y → (F v 714 = 1000000000 → ∃ fn : Nat, y = ((fn : Nat) : Int) ∧ ((fn : Nat) : Int) < F u 442) → OK (fun w _ => PXS u w lv ps lo hi q q o (la = 1) 1) (hb_Cm_funOf_48 N () v (I y)) := fun v y k1 f1 hy hf => by
    unfold hb_Cm_funOf_48
    refine put_1 (x := 7) k1.2.1.1 ⟨by decide, by decide⟩ (fun w1 e1 => put_B k1.2.1.1.1 e1 hy (fun w2 e2 => ok_some.mpr ?_))
    refine PC_pre (hi1 := 0) (PC_fr k1 f1) (PC_one k1.2.1 e2 (by simp; omega) (fun h m L g x p gd l15 hm hh hw => ?_)) (by omega) (Nat.le_refl _) (fun z => z)
    have k2 := EMc.km k1.2.1 e2
    obtain ⟨fn, rfl, hf2⟩ := hf (GD_u (hi1 := 0) (s := 0) k1.2.1 k2 gd (by omega) (by omega)).1
    exact SG_fof (Nat.le_refl _) (by omega) hm (hw 0 (by simp)) (hw 1 (by simp)) (by rw [(KMc.tr k1 k2).1.F (by simp)]; exact hf2)
  unfold hm_Cm_funOf hb_Cm_funOf_0
  rw [i1, ck_t, ck_t, tnI (n := n) rfl (by omega), I_A (k := 18), I_A (k := 19), ok_bnd]
  refine ok_mono (seekF_ok (N := N) hu.2.1.2.2.1 (A_r _ _ _) (A_r _ _ _) hN) (fun v r1 h1 => ?_)
  obtain ⟨rfl, h1⟩ := h1
  rcases h1 with rfl | ⟨fn, rfl, hf1, -⟩
  · refine k_c (y := -1) rfl ⟨by decide, by decide⟩ ⟨by decide, by decide⟩ (fun _ => ?_) (fun z => absurd rfl z)
    rw [ck_t, I_A (k := 17), e17, lit1q, I_add]
    exact fault_B (y := 6) cu ⟨by omega, by omega⟩ ⟨by decide, by decide⟩ (fun w k2 f2 h9 => e48 w (-1) k2 (FR.mo f2 (by simp) (by simp) (by simp) (by simp)) ⟨by decide, by decide⟩ (fun z => by omega))
  · have := hu.2.1.2.2.1
    exact k_c (y := -1) rfl ⟨by omega, by omega⟩ ⟨by decide, by decide⟩ (fun z => absurd z (by omega)) (fun _ => e48 v _ (KMc.rf cu) FR.rf ⟨by omega, by omega⟩ (fun _ => ⟨fn, rfl, hf1⟩))
end
end
section
set_option maxRecDepth 100000
section
variable {u v w : MS} {N lv t hi lo o q r s c h m g x d a b k n f Q z la cl : Nat} {ps : Nat → Nat} {S : SF_Cm_fun}
theorem compoundC_ok (hE : ExS N S (o + 1) 3) (hE1 : ExS N S (o + 1) 1) (hE2 : 3 ≤ cl → ExS N S o 2) (hB : BoS N S (o + 2)) (hP1 : PaS N S o 1) (hP0 : PaS N S o 0) (hR : ReS N S o cl) (hF : FuS N S o cl) (hN : 1000000000 ≤ N) {S2 : SF_Cm_fun} (h2 : S2.2.2.2.2.1 = hm_Cm_compound N S) : CoS N S2 o cl := by
  intro f u lv c Q ps n lo hi a b q r la hf hu hX0 hkd hb hh hQ hla
  rw [h2]
  have hX := hX0
  cases f with
  | zero => exact hX.elim
  | succ f =>
  obtain ⟨hd, htk, ho, hX⟩ := hX
  have htk0 := htk
  unfold HDc at hd
  have hcs := CMP_c hu
  have cu := hu.1
  obtain ⟨tk, e17, ht1, ht2⟩ := htk
  have i1 : inb (I ((n : Nat) : Int)) 8016 = true := (I_inb (by omega) (by omega)).mpr ⟨by omega, by omega⟩
  have w0 : 12 * ((hi - lo : Nat) : Int) ≤ WBc ps lo hi := WB_0
  have hu6 := hu.2.2.2.2
  have c40 := cu.2.2.2.2.2.2.2.1
  unfold hm_Cm_compound hb_Cm_compound_0
  rw [i1, ck_t, ck_t, ck_t, tnI (n := n) rfl (by omega), I_A (k := 16), I_A (k := 17), e17, I_F (k := 706)]
  have ng : ∀ {kd : Int} {fn : MS → Unit → Option (MS × Unit)}, A u 16 n = kd → kd ≠ 17 → kd ≠ 18 → RG kd → (∀ v, KMc u v lv → FR [714] [] [] [] u v → (F u 712 = 0 ∨ F v 714 < 1000000000) → CMP v lv c ps Q o lo → (F v 712 = 0 ∨ F v 714 < 1000000000) → F v 706 = F u 706 → OK (fun w _ => PXS v w lv ps lo hi q r o (la = 1) 1) (fn v ())) → OK (fun w _ => PXS u w lv ps lo hi q r o (la = 1) 1) (br (decide (I (A u 16 n) = 17)) (hb_Cm_compound_33 N S () u (I ((n : Nat) : Int))) (br (decide (I (A u 16 n) = 18)) (hb_Cm_compound_33 N S () u (I ((n : Nat) : Int))) (bnd (hm_Cm_notInGuard N u (I ((tk : Nat) : Int))) fn))) := fun {kd fn} hk h17 h18 hr kk => by
    rw [hk]
    refine k_c (y := 17) rfl hr ⟨by decide, by decide⟩ (fun z => absurd z h17) (fun _ => k_c (y := 18) rfl hr ⟨by decide, by decide⟩ (fun z => absurd z h18) (fun _ => ?_))
    refine notIn_B cu ⟨by omega, by omega⟩ (fun v k1 f1 hg => ?_)
    have e6 : F v 706 = F u 706 := congrArg _ (f1.1 706 (by simp))
    refine ok_mono (kk v k1 f1 hg (CMP_k hu k1 (by rw [e6]; exact hu6) (Nat.le_refl _)) ?_ e6) (fun w _ p => PC_pre (hi1 := 0) (PC_fr k1 (FR.mo f1 (by simp) (by simp) (by simp) (by simp))) p (by omega) (by omega) (fun z => z))
    rcases hg with z | z
    · exact Or.inl (by rw [k1.2.2.2.2.2.1.1]; exact z)
    · exact Or.inr z
  rcases hX with ⟨⟨l16, l6, -⟩, -⟩ | ⟨e16, -⟩ | ⟨e16, -⟩ | ⟨e16, -⟩ | ⟨e16, k, m, c1, e18, hx, hcn⟩ | ⟨e16, x, mid, c1, s, k, m, c2, e18, hx, e19, hrw, hcn⟩ | ⟨e16, k, m, c1, e19, hrw, hcn⟩ | ⟨e16, -⟩ | ⟨e16, -⟩ | ⟨e16, hhi, hqr⟩ | ⟨e16, -⟩ | ⟨e16, -⟩ | ⟨e16, hcl, m, c1, e18, hx, hcn⟩ | ⟨e16, hcl, m, c1, e18, hx, hcn⟩ | ⟨e16, hcl, x, y, mid, c1, c2, e18, hpa, e19, hx, hcn⟩ | ⟨e16, hcl, x, y, mid, c1, c2, s, e18, hx, e19, hy, hcn⟩ | ⟨e16, -⟩
  · exfalso; omega
  · exfalso; omega
  · exfalso; omega
  · exfalso; omega
  · 
    refine ng e16 (by decide) (by decide) ⟨by decide, by decide⟩ (fun v k1 f1 hg hv h12 e6 => ?_)
    rw [ck_t, I_A (k := 16), k1.1.A (j := 16) (by simp), e16]
    show OK _ (ck true (bnd (S.2.2.2.1 v (v.2.2.1 18 n) (I ((la : Nat) : Int))) (fun u42 _ => bnd (hm_Cm_forget N u42 (I (F u 706))) (fun u43 _ => hb_Cm_compound_455 N S () u43))))
    have gx := (RW_hd (XP_bd f (o + 2) 3) hx).1
    unfold HDc at gx
    rw [ck_t, I_A (k := 18), k1.1.A (j := 18) (by simp), e18, ok_bnd]
    refine ok_mono (hB f k v lv c Q ps m (lo + 1) (hi - 1) a c1 q r la (by omega) (CMP_m hv (by omega) (by omega)) (RW_k (XP_k (Nat.le_refl _) (Nat.le_refl _)) (XP_bd f (o + 2) 3) hx (KN_m k1.1)) (by omega) (by omega) hQ hla) (fun v1 _ p1 => ?_)
    have c1v := p1.1.2.1
    have p16 := p1.2.1
    have e40 := p1.1.2.2.2.2.2.2.1 lv (Nat.le_refl _)
    have e40v := k1.2.2.2.2.2.2.1 lv (Nat.le_refl _)
    refine forget_B c1v (by omega) (by omega) (fun w l k3 e36 f3 em3 hl3 => ok_some.mpr ?_)
    have wb := WB_1 hcs.1 (lo := lo) (lo2 := lo + 1) (hi2 := hi - 1) (hi := hi) (by omega) (by omega) (by omega) hh
    have p2 := PC_fgt (Y1 := TYX v w lv lo q r o (la = 1) 1) k3 e36 f3 em3 hl3 p1 (by omega) (by omega) (fun gw gv ol yb fg h m L g x p => ?_)
    · exact PC_w p2 (by omega) (by omega) (by omega) (fun _ z => z)
    · have v12 : F v 712 = 0 := by
        rcases h12 with z | z
        · exact z
        · have := p1.1.2.2.2.1
          have := gv.1
          omega
      obtain ⟨rfl, rfl⟩ := no_g p v12
      refine ⟨fun z => absurd rfl z, ?_⟩
      have l15 := gw.2.2.2.1
      have pl := p.1
      obtain ⟨-, i2⟩ := yb h m L 0 0 (PRE_mo (PRE_1 p k3) (by omega) (by omega) (fun z => z))
      have pb := PRE_b c1v p1.1 p16.1 (PRE_1 p k3)
      have kn : ((knc v v1 : Nat) : Int) = F v1 706 - F v 706 := by show (((F v1 706 - F v 706).toNat : Nat) : Int) = _; omega
      have i3 := fg h (h + 1) (m + knc v v1) L 0 0 (by omega) (by omega) pb.1 (by omega) (Or.inr rfl)
      have j1 := SG_kw c1v i2 k3.1 ol (Nat.le_refl _) (Or.inl (Nat.le_refl _))
      have j := SG_seq j1 i3 (by omega) (fun z => absurd rfl z)
      rw [List.append_nil, show m + knc v v1 - (F v1 706 - F u 706).toNat = m by omega] at j
      rw [show knc v w = 0 by show (F w 706 - F v 706).toNat = 0; omega]
      exact j
  · 
    refine ng e16 (by decide) (by decide) ⟨by decide, by decide⟩ (fun v k1 f1 hg hv h12 e6 => ?_)
    rw [ck_t, I_A (k := 16), k1.1.A (j := 16) (by simp), e16]
    show OK _ (ck true (bnd (S.2.2.2.2.2.2.2.2.2.2.1 v (v.2.2.1 18 n) 0) (fun u49 _ => ck true (bnd (S.2.2.1 u49 (u49.2.2.1 19 n) (-1) 15 (I ((la : Nat) : Int))) (fun u55 r55 => bnd (hm_Co_put N u55 37) (fun u57 _ => bnd (hm_Co_arrive N u57 r55) (fun u60 _ => hb_Cm_compound_455 N S () u60)))))))
    have gx := XP_bd f (o + 1) 3 _ _ _ _ _ _ _ hx
    have gr := (RW_hd CSP_bd hrw).1
    unfold HDc at gx gr
    rw [ck_t, I_A (k := 18), k1.1.A (j := 18) (by simp), e18, ok_bnd]
    refine ok_mono (hE f v lv c Q ps x (lo + 1) mid a c1 q s 0 (by omega) (CMP_m hv (by omega) (by omega)) (XP_k (Nat.le_refl _) (Nat.le_refl _) _ _ _ _ _ _ _ hx (KN_m k1.1)) (by omega) (by omega) (by omega) (by omega)) (fun v1 _ p1 => ?_)
    have kk1 := KMc.tr k1 p1.1
    have p16 := p1.2.1
    rw [ck_t, I_A (k := 19), kk1.1.A (j := 19) (by simp), e19, ok_bnd]
    have h121 : F v1 712 = 0 ∨ F v1 714 < 1000000000 := by
      rcases h12 with z | z
      · exact Or.inl (by rw [p1.1.2.2.2.2.2.1.1]; exact z)
      · have := p1.1.2.2.2.1
        exact Or.inr (by omega)
    have hpp := RW_mp (fun n lo hi a b q r => CSP_pp (n := n) (lo := lo) (hi := hi) (a := a) (b := b) (q := q) (r := r)) hrw
    have hv1 : CMP v1 lv c ps Q o (mid + 1) := CMP_k hv p1.1 (by have := hv.2.2.2.2; omega) (Nat.le_refl _)
    refine ok_mono (hP1 f k v1 lv c Q ps m (mid + 1) (hi - 1) c1 c2 s r la (-1) 15 (by omega) hv1 h121 (Or.inr ⟨(RW_hd CSP_bd hrw).2, RW_k (PP_k kk1.1) (PP_bd f o 1) hpp (KN_m kk1.1)⟩) (by omega) (by omega) hQ hla (Or.inl ⟨rfl, rfl, rfl⟩)) (fun v2 r2 hv2 => ?_)
    obtain ⟨ce, rfl, hce, p2⟩ := hv2
    have p1' : PCQ v v1 lv (WBc ps (lo + 1) mid) (mid - (lo + 1)) (hi - 1) q s (TYX v v1 lv (lo + 1) q s o False 1) := PC_w p1 (Int.le_refl _) (Nat.le_refl _) (by omega) (fun _ y => TY_mo y (Nat.le_refl _) (by omega) (fun z => absurd z (by decide)))
    have h12e : F v 712 = 0 ∨ F v1 714 < 1000000000 := by
      rcases h12 with z | z
      · exact Or.inl z
      · have := p1.1.2.2.2.1
        exact Or.inr (by omega)
    have wb := WB_2 hcs.1 (lo := lo + 1) (m := mid) (lo2 := mid + 1) (hi := hi - 1) (by omega) (by omega) (by omega) (by omega)
    have wb2 := WB_1 hcs.1 (lo := lo) (lo2 := lo + 1) (hi2 := hi - 1) (hi := hi) (by omega) (by omega) (by omega) hh
    refine ends_okc (y := 37) (N := N) (by omega) hv.1 p1' h12e p2 hce (Or.inl ⟨rfl, rfl, rfl⟩) (by omega) (by omega) (by omega) (by omega) (fun w pw => ok_some.mpr ?_)
    exact PC_w pw (by omega) (by omega) (by omega) (fun _ y => TY_mo y (by omega) (Nat.le_refl _) (fun z => z))
  · 
    refine ng e16 (by decide) (by decide) ⟨by decide, by decide⟩ (fun v k1 f1 hg hv h12 e6 => ?_)
    rw [ck_t, I_A (k := 16), k1.1.A (j := 16) (by simp), e16]
    show OK _ (ck true (bnd (S.2.2.1 v (v.2.2.1 19 n) (-1) 0 (I ((la : Nat) : Int))) (fun u67 r67 => bnd (hm_Co_put N u67 38) (fun u69 _ => bnd (hm_Co_arrive N u69 r67) (fun u72 _ => hb_Cm_compound_455 N S () u72)))))
    have gr := (RW_hd CHP_bd hrw).1
    unfold HDc at gr
    rw [ck_t, I_A (k := 19), k1.1.A (j := 19) (by simp), e19, ok_bnd]
    have hpp := RW_mp (fun n lo hi a b q r => CHP_pp (n := n) (lo := lo) (hi := hi) (a := a) (b := b) (q := q) (r := r)) hrw
    refine ok_mono (hP0 f k v lv c Q ps m (lo + 1) (hi - 1) a c1 q r la (-1) 0 (by omega) (CMP_m hv (by omega) (Nat.le_refl _)) h12 (Or.inr ⟨(RW_hd CHP_bd hrw).2, RW_k (PP_k k1.1) (PP_bd f o 0) hpp (KN_m k1.1)⟩) (by omega) (by omega) hQ hla (Or.inr (Or.inl ⟨rfl, rfl, rfl⟩))) (fun v2 r2 hv2 => ?_)
    obtain ⟨ce, rfl, hce, p2⟩ := hv2
    have p0 : PCQ v v lv 0 0 (hi - 1) q q (TYX v v lv (lo + 1) q q o False 0) := PC_w (PC_rf (hi := 0) (q := q) hv.1) (Int.le_refl _) (Nat.le_refl _) (by omega) (fun _ _ h m L g x p => ⟨fun _ => rfl, by
      rw [show knc v v = 0 by show (F v 706 - F v 706).toNat = 0; omega]
      exact SG_nl⟩)
    have wb2 := WB_1 hcs.1 (lo := lo) (lo2 := lo + 1) (hi2 := hi - 1) (hi := hi) (by omega) (by omega) (by omega) hh
    refine ends_okc (y := 38) (N := N) (by omega) hv.1 p0 h12 p2 hce (Or.inr ⟨rfl, rfl, rfl⟩) (by omega) (by omega) (by omega) (by omega) (fun w pw => ok_some.mpr ?_)
    exact PC_w pw (by omega) (by omega) (by omega) (fun _ y => TY_mo y (by omega) (Nat.le_refl _) (fun z => z))
  · 
    refine ng e16 (by decide) (by decide) ⟨by decide, by decide⟩ (fun v k1 f1 hg hv h12 e6 => ?_)
    rw [ck_t, I_A (k := 16), k1.1.A (j := 16) (by simp), e16]
    show OK _ (bnd (S.2.1 v (I ((n : Nat) : Int)) (I ((la : Nat) : Int))) (fun u74 _ => hb_Cm_compound_455 N S () u74))
    rw [ok_bnd]
    exact ok_mono (hR (f + 1) v lv c Q ps n lo hi a b q r la hf hv h12 (XP_k (Nat.le_refl _) (Nat.le_refl _) _ _ _ _ _ _ _ hX0 (KN_m k1.1)) (by rw [k1.1.A (by simp)]; exact e16) hb hh hQ hla) (fun w _ p => ok_some.mpr p)
  · 
    refine ng e16 (by decide) (by decide) ⟨by decide, by decide⟩ (fun v k1 f1 hg hv h12 e6 => ?_)
    rw [ck_t, I_A (k := 16), k1.1.A (j := 16) (by simp), e16]
    show OK _ (bnd (S.1 v (I ((n : Nat) : Int))) (fun u75 _ => hb_Cm_compound_455 N S () u75))
    rw [ok_bnd]
    exact ok_mono (hF (f + 1) v lv c Q ps n lo hi a b q r hf hv h12 (XP_k (Nat.le_refl _) (Nat.le_refl _) _ _ _ _ _ _ _ hX0 (KN_m k1.1)) (by rw [k1.1.A (by simp)]; exact e16) hb hh hQ) (fun w _ p => ok_some.mpr (PC_w p (Int.le_refl _) (Nat.le_refl _) (Nat.le_refl _) (fun _ y => TY_mo y (Nat.le_refl _) (Nat.le_refl _) (fun z => z.elim))))
  · 
    subst hqr
    refine ng e16 (by decide) (by decide) ⟨by decide, by decide⟩ (fun v k1 f1 hg hv h12 e6 => ?_)
    rw [ck_t, I_A (k := 16), k1.1.A (j := 16) (by simp), e16]
    show OK _ (bnd (hm_Cm_funOf N v (I ((n : Nat) : Int))) (fun u76 _ => hb_Cm_compound_455 N S () u76))
    rw [ok_bnd]
    exact ok_mono (funOf_okc (N := N) hv (by omega) (TK_k htk0 (KN_m (a := 0) (b := 8000) (n := 0) k1.1) (by omega)) hhi hh (by omega)) (fun w _ p => ok_some.mpr p)
  · exfalso
    omega
  · exfalso
    omega
  · 
    have gx := XP_bd f (o + 1) 1 _ _ _ _ _ _ _ hx
    unfold HDc at gx
    have e33 : OK (fun w _ => PXS u w lv ps lo hi q r o (la = 1) 1) (hb_Cm_compound_33 N S () u (I ((n : Nat) : Int))) := by
      unfold hb_Cm_compound_33 hb_Cm_compound_72
      rw [i1, ck_t, tnI (n := n) rfl (by omega), I_A (k := 18), e18, ok_bnd]
      refine ok_mono (hE1 f u lv c Q ps m (lo + 1) hi a c1 q r 0 (by omega) (CMP_m hu (by omega) (by omega)) hx (by omega) hh hQ (by omega)) (fun v _ p1 => ?_)
      have wb2 := WB_1 hcs.1 (lo := lo) (lo2 := lo + 1) (hi2 := hi) (hi := hi) (by omega) (by omega) (by omega) hh
      have e72 : ∀ y : Int, (y = 11 ∨ y = 12) → OK (fun w _ => PXS u w lv ps lo hi q r o (la = 1) 1) (bnd (hm_Co_put N v (I y)) (fun u1 _ => some (u1, ()))) := fun y hy => by
        refine put_1 (x := y) p1.1.2.1.1 ⟨by omega, by omega⟩ (fun w1 e1 => ok_some.mpr ?_)
        have p2 := PC_tail (hi := hi) (W := WBc ps lo hi) (la := la = 1) (d2 := 1) p1 e1 (by omega) (Nat.le_refl _) (by simp; omega) (fun z => absurd z (by decide)) (fun h m L g x p gd l15 hm hh hw => SG_neg (by omega) (by omega) hm (by
          have h0 : A w1 23 (szc v) = y := hw 0 (by simp)
          rw [h0]; exact hy) (by omega))
        exact PC_w p2 (Int.le_refl _) (by omega) (Nat.le_refl _) (fun _ y => TY_mo y (by omega) (by omega) (fun z => z))
      exact ok_ck.mpr ⟨rfl, ok_br.mpr ⟨fun _ => e72 12 (Or.inr rfl), fun _ => e72 11 (Or.inl rfl)⟩⟩
    rcases e16 with e16 | e16
    · rw [e16]
      exact ok_br.mpr ⟨fun _ => e33, fun z => absurd z (by decide)⟩
    · rw [e16]
      exact ok_br.mpr ⟨fun _ => e33, fun _ => ok_br.mpr ⟨fun _ => e33, fun z => absurd z (by decide)⟩⟩
  · 
    refine ng e16 (by decide) (by decide) ⟨by decide, by decide⟩ (fun v k1 f1 hg hv h12 e6 => ?_)
    rw [ck_t, I_A (k := 16), k1.1.A (j := 16) (by simp), e16]
    show OK _ (bnd (hm_Co_put N v 29) (fun u78 _ => bnd (hm_Co_hook N u78 0) (fun u81 r81 => ck true (bnd (S.2.2.2.2.2.2.2.2.2.2.1 u81 (u81.2.2.1 18 n) 0) (fun u88 _ => bnd (hm_Co_put N u88 30) (fun u90 _ => bnd (hm_Cm_forget N u90 (I (F u 706))) (fun u92 _ => bnd (hm_Co_arrive N u92 r81) (fun u94 _ => hb_Cm_compound_455 N S () u94))))))))
    have gx := XP_bd f (o + 1) 3 _ _ _ _ _ _ _ hx
    unfold HDc at gx
    have ho1 : o + 1 ≤ 25 := by
      cases f with
      | zero => exact hx.elim
      | succ f => exact hx.2.2.1
    have cv := hv.1
    refine put_1 (x := 29) cv.1 ⟨by decide, by decide⟩ (fun w1 e0 => hook_B (x := 0) cv.1.1 e0 ⟨by decide, by decide⟩ (fun v1 e1 => ?_))
    have kv1 := EMc.km cv e1
    have c1v := kv1.2.1
    have kk1 := KMc.tr k1 kv1
    have e16v : F v1 706 = F v 706 := congrArg _ (e1.1.1 706 (by simp))
    rw [ck_t, I_A (k := 18), kk1.1.A (j := 18) (by simp), e18, ok_bnd]
    have hv6 := hv.2.2.2.2
    refine ok_mono (hE f v1 lv c Q ps m (lo + 1) hi a c1 q r 0 (by omega) (CMP_k hv kv1 (by omega) (by omega)) (XP_k (Nat.le_refl _) (Nat.le_refl _) _ _ _ _ _ _ _ hx (KN_m kk1.1)) (by omega) hh hQ (by omega)) (fun v2 _ p2 => ?_)
    have c2v := p2.1.2.1
    have p26 := p2.2.1
    refine put_1 (x := 30) c2v.1 ⟨by decide, by decide⟩ (fun v3 e3 => ?_)
    have k3 := EMc.km c2v e3
    have c3v := k3.2.1
    have e36 : F v3 706 = F v2 706 := congrArg _ (e3.1.1 706 (by simp))
    have q1 := PC_seq (Y := (szc v1 = szc v + 2 ∧ A v2 23 (szc v) = 29 ∧ A v2 23 (szc v + 1) = 0) ∧ TYX v1 v2 lv (lo + 1) q r (o + 1) (0 = 1) 1) (PC_em (hi := hi) (q := q) cv e1) p2 (Nat.le_refl _) (Nat.le_refl _) (by omega) (fun gd o1 o2 y1 y2 => by
      have s3 : szc v1 = szc v + 2 := y1.1
      have cc1 := c1v.1
      have lt : ∀ j, j < 2 → A v2 23 (szc v + j) = A v1 23 (szc v + j) := fun j hj => o2.1 _ (by
        have h5 : (F v1 441).toNat = szc v + 2 := s3
        omega)
      exact ⟨⟨s3, (lt 0 (by omega)).trans (y1.2 0 (by simp)), (lt 1 (by omega)).trans (y1.2 1 (by simp))⟩, y2⟩)
    have q2 := PC_seq (Y := ((szc v1 = szc v + 2 ∧ A v2 23 (szc v) = 29 ∧ A v2 23 (szc v + 1) = 0) ∧ TYX v1 v2 lv (lo + 1) q r (o + 1) (0 = 1) 1) ∧ szc v3 = szc v2 + 1 ∧ A v3 23 (szc v2) = 30 ∧ OLQ v2 v3 r r) q1 (PC_em (hi := hi) (q := r) c2v e3) (Nat.le_refl _) (by omega) (Nat.le_refl _) (fun gd o1 o2 y1 y2 => ⟨y1, y2.1, y2.2 0 (by simp), o2⟩)
    have e40 := q2.1.2.2.2.2.2.2.1 lv (Nat.le_refl _)
    have e40v := k1.2.2.2.2.2.2.1 lv (Nat.le_refl _)
    refine forget_B c3v (by omega) (by omega) (fun v4 l k4 e46 f4 em4 hl4 => ?_)
    have q3 := PC_fgt (Y1 := (((szc v1 = szc v + 2 ∧ A v2 23 (szc v) = 29 ∧ A v2 23 (szc v + 1) = 0) ∧ TYX v1 v2 lv (lo + 1) q r (o + 1) (0 = 1) 1) ∧ szc v3 = szc v2 + 1 ∧ A v3 23 (szc v2) = 30 ∧ OLQ v2 v3 r r) ∧ OLQ v3 v4 r r ∧ (∀ z h m L g x, z ≤ h → h ≤ 1090 → m ≤ 40 → (F v3 706 - F u 706).toNat ≤ m → ((F v3 706 - F u 706).toNat = 0 ∨ g = 0) → SGc v4 (szc v3) (szc v4) r r [] z h m L g x (some (h, m - (F v3 706 - F u 706).toNat, L, g, x))) ∧ GDc v4 hi r) k4 e46 f4 em4 hl4 q2 (by omega) (by omega) (fun gw gv ol y fg => ⟨y, ol, fg, gw⟩)
    have c4v := k4.2.1
    have c1r := c1v.1
    have cvr := cv.1
    rw [ok_bnd]
    refine ok_mono (arrive_ok (N := N) (u := v4) (c := F v1 441 - 1) ⟨by omega, by omega⟩ (by omega)) (fun w _ hw => ok_some.mpr ?_)
    have l2 := szc_le c1v p2.1
    have l4 := szc_le c3v k4
    have e41 : A w 41 lv = A v4 41 lv := by show (w.2.2.1 41 lv).toInt = _; rw [hw.1.2.2.1 41 (by simp)]; rfl
    have e6w : F w 706 = F v4 706 := congrArg _ (hw.1.1 706 (by simp))
    have esw : szc w = szc v4 := by
      show (F w 441).toNat = (F v4 441).toNat
      rw [show F w 441 = F v4 441 from congrArg _ (hw.1.1 441 (by simp))]
    have chn : szc v1 = szc v + 2 → A v2 23 (szc v + 1) = 0 → OLQ v2 v3 r r → OLQ v3 v4 r r → GDc v4 hi r → CHNc v4 [szc v + 1] (F v1 441 - 1) := fun s1 z1 z2 z3 gd => by
      have h5 : (F v1 441).toNat = szc v + 2 := s1
      have h6 : szc v + 2 ≤ (F v2 441).toNat := by rw [← s1]; exact l2
      have t3 := k3.2.2.1
      have t4 := k4.2.2.1
      have g4 := gd.2.2.1
      refine ⟨by omega, ⟨by omega, by omega⟩, fun q hq => absurd hq (by simp), ?_⟩
      show A v4 23 (szc v + 1) = 0
      rw [z3.1 _ (by omega), z2.1 _ (by omega)]
      exact z1
    have wb2 := WB_1 hcs.1 (lo := lo) (lo2 := lo + 1) (hi2 := hi) (hi := hi) (by omega) (by omega) (by omega) hh
    have p9 := PC_arr (Y1 := TYX v w lv lo q r o (la = 1) 1) q3 hw.1 (fun gv y j hj => ?_) (fun gw gv y => ?_)
    · exact PC_w p9 (by simp; omega) (by omega) (Nat.le_refl _) (fun _ z => z)
    · obtain ⟨⟨⟨⟨s1, -, z1⟩, -⟩, -, -, o3⟩, o4, -, gd⟩ := y
      refine (hw.2 _ (chn s1 z1 o3 o4 gd)).2 j (fun hj2 => ?_)
      simp only [List.mem_singleton] at hj2
      have : j = (F v 441).toNat + 1 := hj2
      omega
    · obtain ⟨⟨⟨⟨s1, z0, z1⟩, tX⟩, s3, z3, o3⟩, o4, fg, gd⟩ := y
      have ar := hw.2 _ (chn s1 z1 o3 o4 gd)
      have cd : ∀ j, j ≠ szc v + 1 → A w 23 j = A v4 23 j := fun j hj => ar.2 j (by simp; exact hj)
      have l15 := gd.2.2.2.1
      intro h m L g x p
      have v12 : F v 712 = 0 := by
        rcases h12 with z | z
        · exact z
        · have := q3.1.2.2.2.1
          have := gd.1
          omega
      obtain ⟨rfl, rfl⟩ := no_g p v12
      refine ⟨fun z => absurd rfl z, ?_⟩
      obtain ⟨pp1, ⟨pp2, pp3⟩, pp4, pp5, -⟩ := p
      have a41a := k3.2.2.2.2.2.2.2.2
      have a41b := k4.2.2.2.2.2.2.2.2
      have a40 := kv1.2.2.2.2.2.2.1 lv (Nat.le_refl _)
      have c28 := c2v.2.2.2.2.2.2.2.2
      have a40b := p2.1.2.2.2.2.2.2.1 lv (Nat.le_refl _)
      have kn : ((knc v1 v2 : Nat) : Int) = F v2 706 - F v1 706 := by show (((F v2 706 - F v1 706).toNat : Nat) : Int) = _; omega
      have hm40 : m + knc v1 v2 ≤ 40 := by omega
      obtain ⟨-, i1⟩ := tX h m (szc w :: L) 0 0 ⟨by omega, ⟨by rw [a40, e16v]; exact pp2, by rw [a40, e16v]; omega⟩, by simp; omega, fun z => absurd z (by decide), ⟨fun z => absurd rfl z, fun z => by rw [kv1.2.2.2.2.2.1.1, v12] at z; exact absurd z (by decide)⟩, fun _ => rfl⟩
      have i3 := fg h (h + 1) (m + knc v1 v2) L 0 0 (by omega) (by omega) hm40 (by omega) (Or.inr rfl)
      rw [show m + knc v1 v2 - (F v3 706 - F u 706).toNat = m by omega, s3] at i3
      have j1 := SG_kw c3v (SG_kw c2v i1 k3.1 o3 (Nat.le_refl _) (Or.inl (Nat.le_refl _))) k4.1 o4 (szc_le c2v k3) (Or.inl (Nat.le_refl _))
      have j2 : SGc w (szc v1) (szc v2) q r [] h h m (szc w :: L) 0 0 (some (h + 1, m + knc v1 v2, szc w :: L, 0, 0)) := SG_k j1 (fun j j3 _ _ => cd j (by omega)) (TBL_23 hw.1)
      have j3 := SG_k i3 (fun j j4 _ _ => cd j (by omega)) (TBL_23 (v := v4) (w := w) (q := r) (r := r) hw.1)
      rw [← esw] at j3
      rw [s1] at j2
      have c2r := c2v.1
      have c3r := c3v.1
      have t3 := k3.2.2.1
      have h6 : szc v + 2 ≤ szc v2 := by rw [← s1]; exact l2
      have lt2 : ∀ j, j < szc v2 → j ≠ szc v + 1 → A w 23 j = A v2 23 j := fun j hj h1 => by
        have h7 : j < (F v2 441).toNat := hj
        rw [cd j h1, o4.1 j (by omega), o3.1 j (by omega)]
      have h8 : szc v2 < (F v3 441).toNat := by
        have : (F v3 441).toNat = szc v2 + 1 := s3
        omega
      have j4 := SG_cat (u := w) (a := szc v) (b := szc v2) (c := szc w) (k := knc v1 v2) (z := h) (h := h) (m := m) (L := L) (Nat.le_refl _) (by omega) (by omega) (by omega) (by rw [lt2 _ (by omega) (by omega)]; exact z0) (by
        rw [ar.1 (szc v + 1) (by simp), esw]
        have := c4v.1
        show F v4 441 = (((F v4 441).toNat : Nat) : Int)
        omega) j2 hm40 (by omega) (by rw [cd _ (by omega), o4.1 _ (by omega)]; exact z3) j3
      rw [show knc v w = 0 by show (F w 706 - F v 706).toNat = 0; omega]
      exact j4
  · 
    refine ng e16 (by decide) (by decide) ⟨by decide, by decide⟩ (fun v k1 f1 hg hv h12 e6 => ?_)
    rw [ck_t, I_A (k := 16), k1.1.A (j := 16) (by simp), e16]
    show OK _ (ck true (bnd (S.2.2.2.2.2.2.2.2.2.2.1 v (v.2.2.1 19 n) 0) (fun u101 _ => bnd (hm_Co_put N u101 20) (fun u103 _ => ck true (bnd (hr_Cm_pattern N u103 (u103.2.2.1 18 n)) (fun u110 _ => bnd (hm_Co_put N u110 8) (fun u112 _ => hb_Cm_compound_455 N S () u112)))))))
    have gx := XP_bd f (o + 1) 3 _ _ _ _ _ _ _ hx
    have gp := PA_bd f _ _ _ _ _ _ _ hpa
    unfold HDc at gx gp
    have cv := hv.1
    have hv6 := hv.2.2.2.2
    rw [ck_t, I_A (k := 19), k1.1.A (j := 19) (by simp), e19, ok_bnd]
    refine ok_mono (hE f v lv c Q ps y (mid + 1) hi c1 c2 q r 0 (by omega) (CMP_m hv (by omega) (by omega)) (XP_k (Nat.le_refl _) (Nat.le_refl _) _ _ _ _ _ _ _ hx (KN_m k1.1)) (by omega) hh hQ (by omega)) (fun v1 _ p1 => ?_)
    have c1v := p1.1.2.1
    have p16 := p1.2.1
    refine put_1 (x := 20) c1v.1 ⟨by decide, by decide⟩ (fun v2 e2 => ?_)
    have k2 := EMc.km c1v e2
    have c2v := k2.2.1
    have kk2 := KMc.tr k1 (KMc.tr p1.1 k2)
    have e26 : F v2 706 = F v1 706 := congrArg _ (e2.1.1 706 (by simp))
    rw [ck_t, I_A (k := 18), kk2.1.A (j := 18) (by simp), e18, ok_bnd]
    refine ok_mono (pattern_300 (N := N) (f := f) (by omega) (by omega) v2 lv c ps x lo mid a c1 q q c2v (CSX_k hcs.1 kk2.1) (PA_k (Nat.le_refl _) _ _ _ _ _ _ _ hpa (KN_m kk2.1)) (by omega) (by omega) (by omega)) (fun v3 _ pq => ?_)
    have p3 := PQ_pc (hi := hi) (q := r) pq
    have c3v := p3.1.2.1
    have p36 := p3.2.1
    refine put_1 (x := 8) c3v.1 ⟨by decide, by decide⟩ (fun w e4 => ok_some.mpr ?_)
    have k4 := EMc.km c3v e4
    have e46 : F w 706 = F v3 706 := congrArg _ (e4.1.1 706 (by simp))
    have wb := WB_2 hcs.1 (lo := lo) (m := mid) (lo2 := mid + 1) (hi := hi) (by omega) (by omega) (by omega) hh
    have q1 := PC_seq (Y := TYX v v1 lv (mid + 1) q r (o + 1) (0 = 1) 1 ∧ szc v2 = szc v1 + 1 ∧ A v2 23 (szc v1) = 20 ∧ OLQ v1 v2 r r) p1 (PC_em (hi := hi) (q := r) c1v e2) (Nat.le_refl _) (by omega) (Nat.le_refl _) (fun gd o1 o2 y1 y2 => ⟨y1, y2.1, y2.2 0 (by simp), o2⟩)
    have q2 := PC_seq (Y := (TYX v v1 lv (mid + 1) q r (o + 1) (0 = 1) 1 ∧ szc v2 = szc v1 + 1 ∧ A v2 23 (szc v1) = 20 ∧ OLQ v1 v2 r r) ∧ PTSc v3 (szc v2) (szc v3) (knc v2 v3) ∧ OLQ v2 v3 r r) q1 p3 (Nat.le_refl _) (by omega) (Nat.le_refl _) (fun gd o1 o2 y1 y2 => ⟨y1, y2, o2⟩)
    have q3 := PC_seq (Y := TYX v w lv lo q r o (la = 1) 1) q2 (PC_em (hi := hi) (q := r) c3v e4) (Nat.le_refl _) (by omega) (Nat.le_refl _) (fun gd o1 o2 y1 y2 h m L g x p => ?_)
    · exact PC_w q3 (by simp; omega) (by omega) (Nat.le_refl _) (fun _ z => z)
    · obtain ⟨⟨tX, s2, z2, ol1⟩, pt, ol2⟩ := y1
      have s4 : szc w = szc v3 + 1 := y2.1
      have z4 : A w 23 (szc v3) = 8 := y2.2 0 (by simp)
      have l15 := gd.2.2.2.1
      have v12 : F v 712 = 0 := by
        rcases h12 with z | z
        · exact z
        · have := (KMc.tr (KMc.tr (KMc.tr p1.1 k2) p3.1) k4).2.2.2.1
          have := gd.1
          omega
      obtain ⟨rfl, rfl⟩ := no_g p v12
      refine ⟨fun z => absurd rfl z, ?_⟩
      obtain ⟨pp1, ⟨pp2, pp3⟩, pp4, pp5, -⟩ := p
      have a41a := k2.2.2.2.2.2.2.2.2
      have a41b := p3.1.2.2.2.2.2.2.2.2
      have a41c := k4.2.2.2.2.2.2.2.2
      have c48 := k4.2.1.2.2.2.2.2.2.2.2
      have a40 := (KMc.tr (KMc.tr (KMc.tr p1.1 k2) p3.1) k4).2.2.2.2.2.2.1 lv (Nat.le_refl _)
      have kn : ((knc v v1 : Nat) : Int) = F v1 706 - F v 706 := by show (((F v1 706 - F v 706).toNat : Nat) : Int) = _; omega
      have kn2 : ((knc v2 v3 : Nat) : Int) = F v3 706 - F v2 706 := by show (((F v3 706 - F v2 706).toNat : Nat) : Int) = _; omega
      have kn3 : knc v w = knc v v1 + knc v2 v3 := by show (F w 706 - F v 706).toNat = _; omega
      obtain ⟨-, i1⟩ := tX h m L 0 0 ⟨by omega, ⟨pp2, by omega⟩, by omega, fun z => absurd z (by decide), ⟨fun z => absurd rfl z, fun z => by rw [v12] at z; exact absurd z (by decide)⟩, fun _ => rfl⟩
      have c1r := c1v.1
      have c2r := c2v.1
      have c3r := c3v.1
      have l3 := szc_le c2v p3.1
      have t2 := k2.2.2.1
      have t3 := p3.1.2.2.1
      have v24 : szc v3 < 24000 := by
        have h5 := gd.2.2.1
        have h7 : (F w 441).toNat = szc v3 + 1 := s4
        omega
      have j1 := SG_kw c3v (SG_kw c2v (SG_kw c1v i1 k2.1 ol1 (Nat.le_refl _) (Or.inl (Nat.le_refl _))) p3.1.1 ol2 (szc_le c1v k2) (Or.inl (Nat.le_refl _))) k4.1 o2 (by have := szc_le c1v k2; omega) (Or.inl (Nat.le_refl _))
      have lt : ∀ j, j < szc v3 → A w 23 j = A v3 23 j := fun j hj => o2.1 j (by have h5 : j < (F v3 441).toNat := hj; omega)
      rw [s2] at pt l3
      have h6 : szc v1 < (F v2 441).toNat := by have h7 : (F v2 441).toNat = szc v1 + 1 := s2; omega
      have j2 := SG_mat (u := w) (a := szc v1) (e := szc v3) (b2 := knc v2 v3) (q := r) (z := h) (h := h + 1) (m := m + knc v v1) (L := L) (g := 0) (x := 0) (by omega) (by omega) (by omega) (by rw [lt _ (by omega), ol2.1 _ (by omega)]; exact z2) rfl (by omega) (PTS_k pt (fun j _ hj => lt j hj)) z4 v24
      rw [← s4] at j2
      have j := SG_seq j1 j2 (by omega) (fun z => absurd rfl z)
      rw [List.append_nil, Nat.add_assoc, ← kn3] at j
      exact j
  · 
    refine ng e16 (by decide) (by decide) ⟨by decide, by decide⟩ (fun v k1 f1 hg hv h12 e6 => ?_)
    rw [ck_t, I_A (k := 16), k1.1.A (j := 16) (by simp), e16]
    show OK _ (ck true (bnd (S.2.2.2.2.2.2.2.2.2.2.1 v (v.2.2.1 18 n) 0) (fun u119 _ => ck true (bnd (S.2.2.2.2.2.2.2.2.2.2.1 u119 (u119.2.2.1 19 n) 0) (fun u125 _ => bnd (hm_Co_put N u125 17) (fun u127 _ => hb_Cm_compound_455 N S () u127))))))
    have gx := XP_bd f o 2 _ _ _ _ _ _ _ hx
    have gy := XP_bd f (o + 1) 3 _ _ _ _ _ _ _ hy
    unfold HDc at gx gy
    rw [ck_t, I_A (k := 18), k1.1.A (j := 18) (by simp), e18, ok_bnd]
    refine ok_mono (hE2 hcl f v lv c Q ps x lo mid a c1 q s 0 (by omega) hv (XP_k (Nat.le_refl _) (Nat.le_refl _) _ _ _ _ _ _ _ hx (KN_m k1.1)) (by omega) (by omega) (by omega) (by omega)) (fun v1 _ p1 => ?_)
    have kk1 := KMc.tr k1 p1.1
    rw [ck_t, I_A (k := 19), kk1.1.A (j := 19) (by simp), e19, ok_bnd]
    refine ok_mono (hE f v1 lv c Q ps y (mid + 1) hi c1 c2 s r 0 (by omega) (CMP_s hv p1 (by omega) (by omega) (by omega)) (XP_k (Nat.le_refl _) (Nat.le_refl _) _ _ _ _ _ _ _ hy (KN_m kk1.1)) (by omega) hh hQ (by omega)) (fun v2 _ p2 => ?_)
    refine put_1 (x := 17) p2.1.2.1.1 ⟨by decide, by decide⟩ (fun w e4 => ok_some.mpr ?_)
    have wb := WB_2 hcs.1 (lo := lo) (m := mid) (lo2 := mid + 1) (hi := hi) (by omega) (by omega) (by omega) hh
    have p1' : PXS v v1 lv ps lo mid q s o False 1 := PC_w p1 (Int.le_refl _) (Nat.le_refl _) (Nat.le_refl _) (fun _ y => TY_mo y (Nat.le_refl _) (Nat.le_refl _) (fun z => absurd z (by decide)))
    have p2' : PXS v1 v2 lv ps (mid + 1) hi s r o False 1 := PC_w p2 (Int.le_refl _) (Nat.le_refl _) (Nat.le_refl _) (fun _ y => TY_mo y (Nat.le_refl _) (by omega) (fun z => absurd z (by decide)))
    have p3 := PC_two hv.1 p1' p2' (by omega) (by omega) (by omega) (hd := by omega) (W := WBc ps lo mid + WBc ps (mid + 1) hi) (t := hi - lo) (by omega) (by omega)
    exact PC_tail (hi := hi) (W := WBc ps lo hi) (la := la = 1) (d2 := 1) p3 e4 (by omega) (Nat.le_refl _) (by simp; omega) (fun z => z.elim) (fun h m L g x p gd l15 hm hh hw => by
      have j := SG_send (u := w) (a := szc v2) (q := r) (z := h) (h := h + (1 + 1)) (m := m + knc v v2) (L := L) (g := g) (x := x) (by omega) (by omega) hm (hw 0 (by simp)) (by omega)
      exact j)
  · exfalso; omega
end
end
section
set_option maxRecDepth 100000
def GRPc (N : Nat) (S : SF_Cm_fun) (d : Nat) : Prop :=
  (∀ o cl, cl ≤ 3 → (o ≤ 25 → 11 * (25 - o) + 14 + 2 * cl ≤ d) → ExS N S o cl) ∧
  (∀ o, (o ≤ 25 → 11 * (25 - o) + 21 ≤ d) → 1 ≤ d → RoS N S o) ∧
  (∀ o, (o ≤ 25 → 11 * (25 - o) + 21 ≤ d) → 1 ≤ d → BoS N S o) ∧
  (∀ o, (o ≤ 24 → 11 * (24 - o) + 21 ≤ d) → 1 ≤ d → TrS N S o) ∧
  (∀ o k, (o ≤ 24 → 11 * (24 - o) + 22 ≤ d) → 2 ≤ d → PaS N S o k) ∧
  (∀ o cl, (o ≤ 24 → 11 * (24 - o) + 23 ≤ d) → 3 ≤ d → ReS N S o cl) ∧
  (∀ o, (o ≤ 24 → 11 * (24 - o) + 22 ≤ d) → 2 ≤ d → ClS N S o) ∧
  (∀ o cl, (o ≤ 24 → 11 * (24 - o) + 23 ≤ d) → 3 ≤ d → FuS N S o cl) ∧
  (∀ o cl, cl ≤ 3 → (o ≤ 24 → 11 * (24 - o) + 24 ≤ d) → 4 ≤ d → (3 ≤ cl → o ≤ 25 → 11 * (25 - o) + 19 ≤ d) → CoS N S o cl) ∧
  (∀ o cl, cl ≤ 3 → (1 ≤ cl → o ≤ 25 → 11 * (25 - o) + 15 ≤ d) → (o ≤ 24 → 11 * (24 - o) + 22 ≤ d) → 2 ≤ d → ApS N S o cl) ∧
  (∀ o, (o ≤ 25 → 11 * (25 - o) + 17 ≤ d) → 1 ≤ d → SiS N S o) ∧
  (∀ o, (o ≤ 24 → 11 * (24 - o) + 22 ≤ d) → 2 ≤ d → LiSc N S o) ∧
  (∀ o cl, (o ≤ 24 → 11 * (24 - o) + 22 ≤ d) → 2 ≤ d → CaS N S o cl)
section
variable {N o cl d : Nat} {S S2 : SF_Cm_fun}
theorem ExS_26 (ho : 26 ≤ o) : ExS N S o cl := by
  intro f u lv c Q ps n lo hi a b q r la hf hu hX
  cases f with
  | zero => exact hX.elim
  | succ f => have := hX.2.2.1; omega
theorem ApS_0 : ApS N S o 0 := by
  intro f u lv c Q ps n lo hi a b q r la hf hu hX e16
  cases f with
  | zero => exact hX.elim
  | succ f =>
    obtain ⟨-, -, -, hX⟩ := hX
    exfalso
    rcases hX with ⟨⟨l16, l6, -⟩, -⟩ | ⟨e, -⟩ | ⟨e, -⟩ | ⟨e, -⟩ | ⟨e, -⟩ | ⟨e, -⟩ | ⟨e, -⟩ | ⟨e, -⟩ | ⟨e, -⟩ | ⟨e, -⟩ | ⟨e, -⟩ | ⟨e, hcl, -⟩ | ⟨e, -⟩ | ⟨e, -⟩ | ⟨e, -⟩ | ⟨e, -⟩ | ⟨e, -⟩
    all_goals omega
theorem grp_s (hN : 1000000000 ≤ N) (h : GRPc N S d) (h2 : S2 = (hm_Cm_fun N S, hm_Cm_receive N S, hm_Cm_parts N S, hm_Cm_body N S, hm_Cm_compound N S, hm_Cm_apply N S, hm_Cm_call N S, hm_Cm_signs N S, hm_Cm_list N S, hm_Cm_row N S, hm_Cm_expression N S, hm_Cm_tries N S, hm_Cm_clause N S)) : GRPc N S2 (d + 1) := by
  obtain ⟨hE, hRo, hBo, hTr, hPa, hRe, hCl, hFu, hCo, hAp, hSi, hLi, hCa⟩ := h
  have r1 : S2.1 = hm_Cm_fun N S := by rw [h2]
  have r2 : S2.2.1 = hm_Cm_receive N S := by rw [h2]
  have r3 : S2.2.2.1 = hm_Cm_parts N S := by rw [h2]
  have r4 : S2.2.2.2.1 = hm_Cm_body N S := by rw [h2]
  have r5 : S2.2.2.2.2.1 = hm_Cm_compound N S := by rw [h2]
  have r6 : S2.2.2.2.2.2.1 = hm_Cm_apply N S := by rw [h2]
  have r7 : S2.2.2.2.2.2.2.1 = hm_Cm_call N S := by rw [h2]
  have r8 : S2.2.2.2.2.2.2.2.1 = hm_Cm_signs N S := by rw [h2]
  have r9 : S2.2.2.2.2.2.2.2.2.1 = hm_Cm_list N S := by rw [h2]
  have r10 : S2.2.2.2.2.2.2.2.2.2.1 = hm_Cm_row N S := by rw [h2]
  have r11 : S2.2.2.2.2.2.2.2.2.2.2.1 = hm_Cm_expression N S := by rw [h2]
  have r12 : S2.2.2.2.2.2.2.2.2.2.2.2.1 = hm_Cm_tries N S := by rw [h2]
  have r13 : S2.2.2.2.2.2.2.2.2.2.2.2.2 = hm_Cm_clause N S := by rw [h2]
  have hE2 : ∀ o cl, cl ≤ 3 → (o ≤ 25 → 11 * (25 - o) + 14 + 2 * cl ≤ d) → ExS N S o cl := fun o cl hc hd => by
    by_cases z : 26 ≤ o
    · exact ExS_26 z
    · exact hE o cl hc hd
  refine ⟨fun o cl hc hd => ?_, fun o hd h1 => ?_, fun o hd h1 => ?_, fun o hd h1 => ?_, fun o k hd h1 => ?_, fun o cl hd h1 => ?_, fun o hd h1 => ?_, fun o cl hd h1 => ?_, fun o cl hc hd h1 h3 => ?_, fun o cl hc h3 hd h1 => ?_, fun o hd h1 => ?_, fun o hd h1 => ?_, fun o cl hd h1 => ?_⟩
  · by_cases z : 26 ≤ o
    · exact ExS_26 z
    · exact expr_okc (hE2 (o + 1) 3 (by omega) (by omega)) (hRo (o + 1) (by omega) (by omega)) (hLi o (by omega) (by omega)) (hCo o cl hc (by omega) (by omega) (by omega)) (hCa o cl (by omega) (by omega)) (hAp o cl hc (by omega) (by omega) (by omega)) (fun z => hSi o (by omega) (by omega)) (by omega) r11
  · exact rowC_ok (hE2 o 3 (by omega) (by omega)) (by omega) r10
  · exact bodyC_ok (hE2 o 3 (by omega) (by omega)) (by omega) r4
  · exact triesC_ok (hE2 (o + 1) 3 (by omega) (by omega)) (by omega) r12
  · exact partsC_ok (hTr o (by omega) (by omega)) (hBo (o + 2) (by omega) (by omega)) (by omega) r3
  · exact receiveC_ok (hE2 (o + 1) 3 (by omega) (by omega)) (hPa o 1 (by omega) (by omega)) (hBo (o + 2) (by omega) (by omega)) (by omega) r2
  · exact clauseC_ok (hTr o (by omega) (by omega)) (hBo (o + 2) (by omega) (by omega)) (by omega) r13
  · exact funC_ok (hCl o (by omega) (by omega)) hN r1
  · exact compoundC_ok (hE2 (o + 1) 3 (by omega) (by omega)) (hE2 (o + 1) 1 (by omega) (by omega)) (fun z => hE2 o 2 (by omega) (by omega)) (hBo (o + 2) (by omega) (by omega)) (hPa o 1 (by omega) (by omega)) (hPa o 0 (by omega) (by omega)) (hRe o cl (by omega) (by omega)) (hFu o cl (by omega) (by omega)) hN r5
  · rcases (by omega : cl = 0 ∨ 1 ≤ cl) with rfl | z
    · exact ApS_0
    · exact apply_okc2 (hE2 o 0 (by omega) (by omega)) (hRo (o + 1) (by omega) (by omega)) (by omega) r6
  · exact signsC_ok (hE2 o 1 (by omega) (by omega)) (by omega) r8
  · exact listC_ok (hE2 (o + 1) 3 (by omega) (by omega)) (hRo (o + 1) (by omega) (by omega)) r9
  · exact call_okc2 (hRo (o + 1) (by omega) (by omega)) (by omega) r7
theorem grpC_ok (hN : 1000000000 ≤ N) : ∀ d, GRPc N (hrc_Cm_fun N d) d
  | 0 => by
    refine ⟨fun o cl hc hd => ?_, fun o hd h1 => ?_, fun o hd h1 => ?_, fun o hd h1 => ?_, fun o k hd h1 => ?_, fun o cl hd h1 => ?_, fun o hd h1 => ?_, fun o cl hd h1 => ?_, fun o cl hc hd h1 h3 => ?_, fun o cl hc h3 hd h1 => ?_, fun o hd h1 => ?_, fun o hd h1 => ?_, fun o cl hd h1 => ?_⟩
    · by_cases z : 26 ≤ o
      · exact ExS_26 z
      · exfalso; omega
    all_goals (exfalso; omega)
  | d + 1 => grp_s hN (grpC_ok hN d) rfl
theorem clauseC_300 (hN : 1000000000 ≤ N) : ClS N (hrc_Cm_fun N 300) 0 := (grpC_ok hN 300).2.2.2.2.2.2.1 0 (by omega) (by omega)
end
end
section
set_option maxRecDepth 100000
section
variable {u v w : MS} {N lv t hi lo o q r s c h m g x d a b k n f Q z la cl : Nat} {ps : Nat → Nat} {S : SF_Cm_fun} {L : List Nat}
theorem KN_rf : KNc u u a b n := ⟨⟨rfl, rfl⟩, fun k _ _ => ⟨⟨rfl, rfl, rfl, rfl, rfl⟩, fun _ => rfl⟩⟩
theorem clausesX_ok {cc g k : Nat} {K : MS → Unit → Prop} {s0 : MS} (hN : 1000000000 ≤ N) (hg : g < 666) (h0 : CMP s0 0 cc ps Q 1 0) (h12 : F s0 712 = 0) (h40 : A s0 40 0 = 0) (h25 : A s0 25 g = ((k : Nat) : Int)) (hQ : r ≤ Q) (hb : b ≤ 8000) (hh : hi ≤ cc) : ∀ (kc M n x a q2 : Nat) (v : MS), RWc v 1 (CLSc v) kc n x hi a b q2 r → PCQ s0 v 0 (WBc ps lo x) 0 x q q2 (F v 706 = 0 ∧ (A v 41 0 ≤ 40 → SGc v (szc s0) (szc v) q q2 [] 0 k 0 [] 0 0 (some (k, 0, [], 0, 0)))) → lo ≤ x → q ≤ q2 → kc + 1 ≤ M → (∀ w M2, PCQ s0 w 0 (WBc ps lo hi) 0 hi q r (F w 706 = 0 ∧ szc s0 < szc w ∧ (A w 41 0 ≤ 40 → SGc w (szc s0) (szc w) q r [] 0 k 0 [] 0 0 (some (k, 0, [], 0, 0)))) → OK K (hb_Cm_oneFunction_129 N (hg_Cm_oneFunction N M2) w (I ((g : Nat) : Int)) 0)) → OK K (hg_Cm_oneFunction N M v (I ((g : Nat) : Int)) (I ((n : Nat) : Int)))
  | 0, _, _, _, _, _, _, h, _, _, _, _, _ => h.elim
  | kc + 1, M, n, x, a, q2, v, h, pv, hlx, hqq, hM, kk => by
    obtain ⟨M, rfl⟩ : ∃ M2, M = M2 + 1 + 1 := ⟨M - 2, by omega⟩
    show OK _ (hb_Cm_oneFunction_129 N (hg_Cm_oneFunction N (M + 1)) v (I ((g : Nat) : Int)) (I ((n : Nat) : Int)))
    obtain ⟨m, c2, s, e, h⟩ := h
    obtain ⟨he, hl5, e17, e6, k2, ph, hk2, hP⟩ := e
    unfold HDc at he
    have hms : m ≤ hi ∧ c2 ≤ b ∧ s ≤ r := by
      rcases h with ⟨-, -, h1, h2, h3⟩ | ⟨-, n2, -, h3⟩
      · omega
      · have := (RW_hd CLS_bd h3).1; unfold HDc at this; omega
    have hcs := CMP_c h0
    have cv := pv.1.2.1
    have pv6 := pv.2.1
    have h06 := h0.2.2.2.2
    have c06 := h0.1.2.1
    have hP2 : PRTc v (PAc v 103) (XPc v 103 (0 + 2) 3) (XPc v 103 (0 + 1) 3) k2 n (x + 2) ph (ph + 1) m a c2 q2 s := PRT_k (PA_k (by omega)) (XP_k (by omega) (Nat.le_refl _)) (XP_k (by omega) (Nat.le_refl _)) (PA_bd 26) (XP_bd 99 2 3) (XP_bd 103 1 3) hP KN_rf
    obtain ⟨mp, cp, em18, hor, hcp⟩ : ∃ mp cp : Nat, A v 18 n = ((mp : Nat) : Int) ∧ ORc v 1 (PAc v 103) k2 mp (x + 2) ph a cp q2 q2 ∧ cp ≤ 8000 := by
      obtain ⟨hm, -, -, mp, cp, g, m2, c3, s3, kb, mb, c4, h18, h19, h20, hc⟩ := hP2
      have gb := (RW_hd (XP_bd 103 (0 + 2) 3) h20.2).1
      unfold HDc at gb
      rcases h19.2 with ⟨z1, z2, z3, z4⟩ | ⟨z1, kg, z2⟩
      · exact ⟨mp, cp, h18.1, h18.2, by clear h; omega⟩
      · have gr := (RW_hd (XP_bd 103 (0 + 1) 3) z2).1
        unfold HDc at gr
        exact ⟨mp, cp, h18.1, h18.2, by clear h; omega⟩
    have i1 : inb (I ((n : Nat) : Int)) 8016 = true := (I_inb (by omega) (by omega)).mpr ⟨by omega, by clear h; omega⟩
    have iX : inb (I ((x : Nat) : Int)) 4002 = true := (I_inb (by omega) (by omega)).mpr ⟨by omega, by clear h; omega⟩
    have ig : inb (I ((g : Nat) : Int)) 666 = true := (I_inb (by omega) (by omega)).mpr ⟨by omega, by omega⟩
    unfold hb_Cm_oneFunction_129
    refine k_c (y := 0) rfl ⟨by omega, by omega⟩ ⟨by decide, by decide⟩ (fun z => absurd z (by omega)) (fun _ => ?_)
    rw [i1, ck_t, ck_t, tnI (n := n) rfl (by omega), I_A' em18, len_ok (PA_bd 103) (by omega) (by omega) hor, bnd_so, I_A' e17, iX, ck_t, ig, ck_t, ck_t, tnI (n := x) rfl (by omega), tnI (n := g) rfl (by omega)]
    have e205 : ∀ v1, KMc v v1 0 → FR [714] [] [] [] v v1 → (F v1 714 = 1000000000 → k2 = k) → OK K (hb_Cm_oneFunction_205 N (hg_Cm_oneFunction N (M + 1)) v1 (I ((g : Nat) : Int)) (I ((n : Nat) : Int)) (I ((x : Nat) : Int)) (I ((k2 : Nat) : Int))) := fun v1 k1 f1 hkk => by
      unfold hb_Cm_oneFunction_205
      have e16 : F v1 706 = F v 706 := congrArg _ (f1.1 706 (by simp))
      have kv1 := KMc.tr pv.1 k1
      rw [iX, ck_t, tnI (n := x) rfl (by omega), I_A (k := 8), ok_bnd]
      have hv1 : CMP v1 0 cc ps Q (0 + 1) (x + 2) := CMP_k h0 kv1 (by omega) (by omega)
      refine ok_mono (clauseC_300 hN 103 k2 v1 0 cc Q ps n (x + 2) ph (ph + 1) m a c2 q2 s (A v1 8 x) (by omega) hv1 (by rw [kv1.2.2.2.2.2.1.1]; exact h12) (PRT_k (PA_k (Nat.le_refl _)) (XP_k (Nat.le_refl _) (Nat.le_refl _)) (XP_k (Nat.le_refl _) (Nat.le_refl _)) (PA_bd 103) (XP_bd 103 (0 + 2) 3) (XP_bd 103 (0 + 1) 3) hP2 (KN_m k1.1)) (by omega) (by clear h; omega) (by clear h; omega) (by clear h; omega) hk2 (A_r _ _ _)) (fun w _ p1 => ?_)
      rw [i1, ck_t, tnI (n := n) rfl (by omega), I_A (k := 21), (KMc.tr k1 p1.1).1.A (j := 21) (by simp)]
      have p16 := p1.2.1
      have wb := WB_2 hcs.1 (lo := lo) (m := x) (lo2 := x) (hi := m) (by omega) (by omega) (by omega) (by clear h; omega)
      have wb2 := WB_1 hcs.1 (lo := x) (lo2 := x + 2) (hi2 := m) (hi := m) (by omega) (by omega) (by omega) (by clear h; omega)
      have pf := PC_fr (hi := x) (q := q2) k1 (FR.mo f1 (by simp) (by simp) (by simp) (by simp))
      have q1 := PC_seq (Y := (F v 706 = 0 ∧ (A v 41 0 ≤ 40 → SGc v (szc s0) (szc v) q q2 [] 0 k 0 [] 0 0 (some (k, 0, [], 0, 0)))) ∧ OLQ v v1 q2 q2 ∧ szc v1 = szc v) pv pf (Nat.le_refl _) hqq (Nat.le_refl _) (fun gd o1 o2 y1 y2 => ⟨y1, o2, y2.1⟩)
      have p2 : PCQ s0 w 0 (WBc ps lo m) 0 m q s (F w 706 = 0 ∧ szc s0 < szc w ∧ (A w 41 0 ≤ 40 → SGc w (szc s0) (szc w) q s [] 0 k 0 [] 0 0 (some (k, 0, [], 0, 0)))) := by
        refine PC_w (PC_seq q1 p1 (by omega) hqq (by omega) (fun gd o1 o2 y1 y2 => ?_)) (by omega) (by omega) (Nat.le_refl _) (fun _ z => z)
        obtain ⟨⟨z6, ty⟩, ol, sz⟩ := y1
        obtain ⟨y6, ysz, tc⟩ := y2
        have le0 := szc_le h0.1 pv.1
        refine ⟨by rw [y6, e16]; exact z6, by omega, fun h41 => ?_⟩
        have a41 := p1.1.2.2.2.2.2.2.2.2
        have a41b := k1.2.2.2.2.2.2.2.2
        have ek : k2 = k := hkk (GD_u (hi1 := 0) (s := 0) k1.2.1 p1.1 gd (by omega) (by omega)).1
        subst ek
        have a40 := kv1.2.2.2.2.2.2.1 0 (Nat.le_refl _)
        have i2 := tc 0 ⟨by rw [a40, h40, e16, z6]; decide, by rw [a40, h40, e16, z6]; omega⟩
        have i1 := ty (by omega)
        have j1 := SG_kw k1.2.1 (SG_kw cv i1 k1.1 ol (Nat.le_refl _) (Or.inl (Nat.le_refl _))) p1.1.1 o2 (by omega) (Or.inl (Nat.le_refl _))
        rw [sz] at i2
        have j := SG_seq j1 i2 (Nat.le_refl _) (fun _ => rfl)
        rw [List.append_nil] at j
        exact j
      rcases h with ⟨k0, hz, rfl, rfl, rfl⟩ | ⟨-, n2, hz, h3⟩
      · rw [hz]
        show OK _ (hb_Cm_oneFunction_129 N (hg_Cm_oneFunction N M) w (I ((g : Nat) : Int)) 0)
        exact kk w M p2
      · rw [hz]
        have g1 := (RW_hd CLS_bd h3).1
        unfold HDc at g1
        have wb3 := WB_1 hcs.1 (lo := lo) (lo2 := lo) (hi2 := m) (hi := m + 1) (by omega) (by omega) (by omega) (by omega)
        exact clausesX_ok hN hg h0 h12 h40 h25 hQ hb hh kc (M + 1) n2 (m + 1) c2 s w (RW_k (CLS_k v w) CLS_bd h3 (KN_m (KMc.tr k1 p1.1).1)) (PC_w p2 (by omega) (by omega) (by omega) (fun _ y => ⟨y.1, y.2.2⟩)) (by omega) (by omega) (by omega) kk
    have e198 : OK K (hb_Cm_oneFunction_198 N (hg_Cm_oneFunction N (M + 1)) v (I ((g : Nat) : Int)) (I ((n : Nat) : Int)) (I ((x : Nat) : Int)) (I ((k2 : Nat) : Int))) := by
      unfold hb_Cm_oneFunction_198
      exact fault_B (y := 4) cv ⟨by omega, by clear h; omega⟩ ⟨by decide, by decide⟩ (fun v1 k1 f1 h9 => e205 v1 k1 f1 (fun z => by omega))
    rw [I_A (k := 25), pv.1.1.A (j := 25) (by simp), h25]
    refine ok_br.mpr ⟨fun _ => k_eq ⟨by omega, by omega⟩ ?_ (fun z => e205 v (KMc.rf cv) FR.rf (fun _ => by omega)) (fun _ => e198), fun _ => e198⟩
    have := A_r s0 25 g
    rw [h25] at this
    exact this
end
end
section
set_option maxRecDepth 100000
def KM2 (u w : MS) : Prop := FR [441, 706, 709, 711, 712, 713, 714] [] [23, 29, 30, 31, 32, 39, 40, 41, 42] [] u w
def CW0 (u : MS) : Prop := (1 ≤ F u 441 ∧ F u 441 ≤ 24000) ∧ (0 ≤ F u 714 ∧ ((F u 714 ≤ 64031 ∧ 1 ≤ F u 714 % 16) ∨ F u 714 = 1000000000)) ∧ (F u 711 = 0 ∨ F u 711 = 1) ∧ (F u 712 = 0 ∧ F u 713 = 0) ∧ ∀ j, j < 32 → (0 ≤ A u 40 j ∧ A u 40 j ≤ 4000) ∧ 0 ≤ A u 41 j ∧ A u 41 j ≤ 4000
def FUQ (u w : MS) (g k : Nat) (ps : Nat → Nat) (p0 p q0 q1 : Nat) : Prop := KM2 u w ∧ CW0 w ∧ (F u 441 ≤ F w 441 ∧ F w 714 ≤ F u 714 ∧ (F w 711 = 0 → F u 711 = 0)) ∧ (∀ j, j ≠ g → A w 29 j = A u 29 j) ∧ (F w 711 = 0 → F w 441 ≤ F u 441 + WBc ps p0 p) ∧ (GDc w p q1 → OLQ u w q0 q1 ∧ A w 29 g = ((szc u : Nat) : Int) ∧ szc u < szc w ∧ SGc w (szc u) (szc w) q0 q1 [] 0 k 0 [] 0 0 none)
section
variable {u v w : MS} {N lv t hi lo o q r s c h m g x d a b k n f Q z la cl cc : Nat} {ps : Nat → Nat} {E E2 : Nat → Nat → Nat → Nat → Nat → Nat → Nat → Prop}
theorem KM2.F (h : KM2 u w) {k : Nat} (hk : k ∉ [441, 706, 709, 711, 712, 713, 714]) : F w k = F u k := congrArg _ (h.1 k hk)
theorem KM2.A (h : KM2 u w) {j k : Nat} (hk : j ∉ [23, 29, 30, 31, 32, 39, 40, 41, 42]) : A w j k = A u j k := by show (w.2.2.1 j k).toInt = _; rw [h.2.2.1 j hk]; rfl
theorem KM2.tr (a : KM2 u v) (b : KM2 v w) : KM2 u w := FR.tr a b
theorem KMF.to2 (a : KMF u v) : KM2 u v := FR.mo a (by simp) (by simp) (by simp) (by simp)
theorem KN_m2 (h : KM2 u w) : KNc u w a b n := ⟨⟨h.2.2.1 6 (by simp), h.2.2.1 7 (by simp)⟩, fun k _ _ => ⟨⟨h.A (by simp), h.A (by simp), h.A (by simp), h.A (by simp), h.A (by simp)⟩, fun _ => h.A (by simp)⟩⟩
theorem CMX_k2 (h : CMX u c ps Q) (g : KM2 u w) : CMX w c ps Q := by
  obtain ⟨⟨⟨h1, h2, h3, h4⟩, hT⟩, ⟨w36, w1⟩, h8, h9⟩ := h
  have eA : ∀ k, k ∉ [23, 29, 30, 31, 32, 39, 40, 41, 42] → w.2.2.1 k = u.2.2.1 k := g.2.2.1
  obtain ⟨t1, t2, t3, t4, t5⟩ := hT
  refine ⟨⟨⟨by rw [g.F (k := 81) (by simp)]; exact h1, fun k hk => by rw [eA 5 (by simp)]; exact h2 k hk, ?_, by rw [g.F (k := 182) (by simp)]; exact h4⟩, ⟨⟨by rw [g.F (k := 85) (by simp)]; exact t1.1, t1.2⟩, by rw [g.A (j := 6) (by simp)]; exact t2, t3, by rw [g.F (k := 81) (by simp)]; exact t4, fun t ht => ?_⟩⟩, ⟨?_, ?_⟩, by rw [g.F (by simp)]; exact h8, by rw [g.F (by simp)]; exact h9⟩
  · unfold WDc at h3 ⊢
    rw [g.F (by simp)]
    refine ⟨h3.1, h3.2.1, h3.2.2.1, h3.2.2.2.1, fun k hk => ?_⟩
    rw [g.A (by simp), g.A (by simp)]; exact h3.2.2.2.2 k hk
  · obtain ⟨k, h6, h7⟩ := t5 t ht
    exact ⟨k, by rw [g.A (j := 6) (by simp)]; exact h6, TVL_k h7 (g.A (by simp)) (eA 5 (by simp)) (by rw [g.F (k := 22) (by simp)]; omega) (by rw [g.F (k := 242) (by simp)]; omega)⟩
  · unfold WDc at w36 ⊢
    rw [g.F (by simp)]
    refine ⟨w36.1, w36.2.1, w36.2.2.1, w36.2.2.2.1, fun k hk => ?_⟩
    rw [g.A (by simp), g.A (by simp)]; exact w36.2.2.2.2 k hk
  · unfold WDc at w1 ⊢
    rw [g.F (by simp)]
    refine ⟨w1.1, w1.2.1, w1.2.2.1, w1.2.2.2.1, fun k hk => ?_⟩
    rw [g.A (by simp), g.A (by simp)]; exact w1.2.2.2.2 k hk
theorem fn_in {x1 x2 x3 x4 x5 : MS} (hv : CW0 v) (h1 : x1 = wi v 709 0) (h2 : x2 = wi x1 706 0) (h3 : x3 = wa x2 40 0 0) (h4 : x4 = wa x3 41 0 0) (h5 : x5 = wa x4 29 g (F v 441)) : KM2 v x5 ∧ CVI x5 0 ∧ (∀ j, j ≠ 709 → j ≠ 706 → F x5 j = F v j) ∧ F x5 706 = 0 ∧ A x5 40 0 = 0 ∧ (∀ r j, r ≠ 40 → r ≠ 41 → r ≠ 29 → A x5 r j = A v r j) ∧ A x5 29 g = F v 441 ∧ ∀ j, j ≠ g → A x5 29 j = A v 29 j := by
  obtain ⟨g1, g2, g3, g4, g5⟩ := hv
  have r4 : RG (F v 441) := FRG1 v 441
  have F2 : ∀ j, j ≠ 709 → j ≠ 706 → F x2 j = F v j := fun j a b => by rw [h2, F_wi (by decide) (by decide), if_neg b, h1, F_wi (by decide) (by decide), if_neg a]
  have F26 : F x2 706 = 0 := by rw [h2, F_wi (by decide) (by decide), if_pos rfl]
  have F29 : F x2 709 = 0 := by rw [h2, F_wi (by decide) (by decide), if_neg (show ¬ (709 : Nat) = 706 by decide), h1, F_wi (by decide) (by decide), if_pos rfl]
  have F5 : ∀ j, F x5 j = F x2 j := fun j => by rw [h5, F_wa, h4, F_wa, h3, F_wa]
  have A2 : ∀ r j, A x2 r j = A v r j := fun r j => by rw [h2, A_wi, h1, A_wi]
  have A3 : ∀ r j, A x3 r j = if r = 40 then (if j = 0 then 0 else A v r j) else A v r j := fun r j => by rw [h3, A_wa (by decide) (by decide), A2]
  have A4 : ∀ r j, A x4 r j = if r = 41 then (if j = 0 then 0 else A x3 r j) else A x3 r j := fun r j => by rw [h4, A_wa (by decide) (by decide)]
  have A5 : ∀ r j, A x5 r j = if r = 29 then (if j = g then F v 441 else A x4 r j) else A x4 r j := fun r j => by rw [h5, A_wa r4.1 r4.2]
  have B40 : ∀ j, A x5 40 j = if j = 0 then 0 else A v 40 j := fun j => by rw [A5, if_neg (show ¬ (40 : Nat) = 29 by decide), A4, if_neg (show ¬ (40 : Nat) = 41 by decide), A3, if_pos (show (40 : Nat) = 40 from rfl)]
  have B41 : ∀ j, A x5 41 j = if j = 0 then 0 else A v 41 j := fun j => by rw [A5, if_neg (show ¬ (41 : Nat) = 29 by decide), A4, if_pos (show (41 : Nat) = 41 from rfl), A3, if_neg (show ¬ (41 : Nat) = 40 by decide)]
  have km : KM2 v x5 := by
    rw [h5, h4, h3, h2, h1]
    exact FR.wa (FR.wa (FR.wa (FR.wi (FR.wi FR.rf (by simp)) (by simp)) (by simp)) (by simp)) (by simp)
  have b40 : A x5 40 0 = 0 := by rw [B40, if_pos rfl]
  have b41 : A x5 41 0 = 0 := by rw [B41, if_pos rfl]
  have c7 : ∀ j, j < 32 → (0 ≤ A x5 40 j ∧ A x5 40 j ≤ 4000) ∧ 0 ≤ A x5 41 j ∧ A x5 41 j ≤ 4000 := fun j hj => by
    rw [B40, B41]
    by_cases e : j = 0
    · rw [if_pos e, if_pos e]; omega
    · rw [if_neg e, if_neg e]; exact g5 j hj
  have e6 : F x5 706 = 0 := by rw [F5]; exact F26
  refine ⟨km, ⟨by rw [F5, F2 441 (by decide) (by decide)]; exact g1, by rw [e6]; omega, ⟨by rw [F5]; exact F29, by omega⟩, ⟨by rw [F5, F2 712 (by decide) (by decide)]; exact Or.inl g4.1, by rw [F5, F2 713 (by decide) (by decide)]; exact Or.inl g4.2⟩, by rw [F5, F2 714 (by decide) (by decide)]; exact g2, by rw [F5, F2 711 (by decide) (by decide)]; exact g3, c7, by rw [b40, e6]; exact Int.le_refl _, by rw [b40, b41, e6]; omega⟩, fun j a b => by rw [F5, F2 j a b], e6, b40, fun r j a b c => by rw [A5, if_neg c, A4, if_neg b, A3, if_neg a], by rw [A5, if_pos rfl, if_pos rfl], fun j hj => by rw [A5, if_pos rfl, if_neg hj, A4, if_neg (show ¬ (29 : Nat) = 41 by decide), A3, if_neg (show ¬ (29 : Nat) = 40 by decide)]⟩
theorem oneFn_ok {kc first p0 p n0 n1 q0 q1 : Nat} (hN : 1000000000 ≤ N) (hu : CW0 u) (hx : CMX u cc ps Q) (hg : g < 666) (hr : RWc u 1 (CLSc u) kc first p0 (p - 1) n0 n1 q0 q1) (h27 : A u 27 g = ((first : Nat) : Int)) (h25 : A u 25 g = ((k : Nat) : Int)) (hk : k ≤ 6) (hp : p0 + 6 ≤ p) (hpc : p ≤ cc) (hn : n1 ≤ 8000) (hQ : q1 ≤ Q) : OK (fun w _ => FUQ u w g k ps p0 p q0 q1) (hm_Cm_oneFunction N u (I ((g : Nat) : Int))) := by
  have gr := (RW_hd CLS_bd hr).1
  have hkc := RW_cnt CLS_bd hr
  unfold HDc at gr
  have hc4 := hx.1.2.1.2
  have e17 : ∃ t : Nat, A u 17 first = ((t : Nat) : Int) ∧ t ≤ 4000 := by
    cases kc with
    | zero => exact hr.elim
    | succ kc =>
      obtain ⟨m, c2, s, e, -⟩ := hr
      have := e.1
      unfold HDc at this
      exact ⟨p0, e.2.2.1, by omega⟩
  obtain ⟨t, e17, ht⟩ := e17
  have ig : inb (I ((g : Nat) : Int)) 666 = true := (I_inb (by omega) (by omega)).mpr ⟨by omega, by omega⟩
  have if1 : inb (I ((first : Nat) : Int)) 8016 = true := (I_inb (by omega) (by omega)).mpr ⟨by omega, by omega⟩
  have i0 : inb (0 : Int32) 32 = true := by decide
  have t0 : (0 : Int32).toNatClampNeg = 0 := by decide
  have e79 : ∀ v, FR [714] [] [] [] u v → CW0 v → F v 714 ≤ F u 714 → OK (fun w _ => FUQ u w g k ps p0 p q0 q1) (hb_Cm_oneFunction_79 N (hg_Cm_oneFunction N N) v (I ((g : Nat) : Int))) := fun v fv cv h714 => by
    have kuv : KM2 u v := FR.mo fv (by simp) (by simp) (by simp) (by simp)
    have ev : ∀ j, j ≠ 714 → F v j = F u j := fun j hj => congrArg _ (fv.1 j (by simp; exact hj))
    have ea : ∀ r j, A v r j = A u r j := fun r j => by show (v.2.2.1 r j).toInt = _; rw [fv.2.2.1 r (by simp)]; rfl
    unfold hb_Cm_oneFunction_79
    rw [i0, t0, ig, tnI (n := g) rfl (by omega)]
    refine ok_lt.mpr (ok_lt.mpr ?_)
    rw [lit0q, wi_e, wi_e]
    generalize h1 : wi v 709 0 = x1
    generalize h2 : wi x1 706 0 = x2
    rw [ck_t]
    refine ok_lt.mpr ?_
    rw [wa_e, ck_t]
    refine ok_lt.mpr ?_
    rw [wa_e, ck_t]
    refine ok_lt.mpr ?_
    generalize h3 : wa x2 40 0 0 = x3
    generalize h4 : wa x3 41 0 0 = x4
    rw [show x4.1 441 = I (F v 441) by rw [I_F, ← h4, F_wa, ← h3, F_wa, ← h2, F_wi (by decide) (by decide), if_neg (by decide), ← h1, F_wi (by decide) (by decide), if_neg (by decide)], wa_e]
    generalize h5 : wa x4 29 g (F v 441) = s0
    obtain ⟨km, c0, f0, f06, a40, aO, a29, a29n⟩ := fn_in (g := g) cv h1.symm h2.symm h3.symm h4.symm h5.symm
    have ku0 : KM2 u s0 := KM2.tr kuv km
    rw [ck_t, I_A (k := 27), ku0.A (j := 27) (by simp), h27]
    have x0 : CMX s0 cc ps Q := CMX_k2 hx ku0
    have hm0 : CMP s0 0 cc ps Q 1 0 := ⟨c0, x0, by rw [f0 713 (by decide) (by decide)]; exact cv.2.2.2.1.2, by omega, by rw [f06]; decide⟩
    have hrw : RWc s0 1 (CLSc s0) kc first p0 (p - 1) n0 n1 q0 q1 := RW_k (CLS_k u s0) CLS_bd hr (KN_m2 ku0)
    have p00 : PCQ s0 s0 0 (WBc ps p0 p0) 0 p0 q0 q0 (F s0 706 = 0 ∧ (A s0 41 0 ≤ 40 → SGc s0 (szc s0) (szc s0) q0 q0 [] 0 k 0 [] 0 0 (some (k, 0, [], 0, 0)))) := PC_w (PC_rf (hi := p0) (q := q0) c0) (by unfold WBc; simp) (Nat.le_refl _) (Nat.le_refl _) (fun _ _ => ⟨f06, fun _ => SG_nl⟩)
    refine clausesX_ok (k := k) (lo := p0) (q := q0) hN hg hm0 (by rw [f0 712 (by decide) (by decide)]; exact cv.2.2.2.1.1) a40 (by rw [ku0.A (by simp)]; exact h25) hQ hn (by omega) kc N first p0 n0 q0 s0 hrw p00 (Nat.le_refl _) (Nat.le_refl _) (by omega) (fun w M2 pw => ?_)
    unfold hb_Cm_oneFunction_129
    refine ok_br.mpr ⟨fun _ => ?_, fun z => absurd z (by decide)⟩
    have cw := pw.1.2.1
    refine put_1 (x := 36) cw.1 ⟨by decide, by decide⟩ (fun w1 e1 => ?_)
    have k1 := EMc.km cw e1
    have c1 := k1.2.1
    have kk := KMc.tr pw.1 k1
    have f41 := f0 441 (by decide) (by decide)
    have S0 : szc s0 = szc u := by show (F s0 441).toNat = (F u 441).toNat; rw [f41, ev 441 (by decide)]
    have l1 := e1.2.1.2.2
    simp only [List.length_cons, List.length_nil] at l1
    have fin : ∀ y : Int, (y = 0 ∨ y = 1) → (y = 0 → F w1 711 = 0 ∧ A w1 41 0 ≤ 40) → OK (fun w _ => FUQ u w g k ps p0 p q0 q1) (hb_Cm_oneFunction_268 N (hg_Cm_oneFunction N M2) w1 (I y)) := fun y hy hy0 => by
      unfold hb_Cm_oneFunction_268
      refine ok_ck.mpr ⟨by rcases hy with rfl | rfl <;> decide, ok_lt.mpr (ok_some.mpr ?_)⟩
      rw [wi_e]
      have hyr : RG y := ⟨by omega, by omega⟩
      have kw := KM_711 c1 hy (fun z => (hy0 z).1)
      have wF : ∀ j, j ≠ 711 → F (wi w1 711 y) j = F w1 j := fun j hj => by rw [F_wi hyr.1 hyr.2, if_neg hj]
      have w11 : F (wi w1 711 y) 711 = y := by rw [F_wi hyr.1 hyr.2, if_pos rfl]
      have wA : ∀ r j, A (wi w1 711 y) r j = A w1 r j := fun _ _ => rfl
      have swi : ∀ {a b q r : Nat} {H : List (Nat × Tyc)} {z h m : Nat} {L : List Nat} {g x : Nat} {oo : Option Tyc}, SGc w1 a b q r H z h m L g x oo → SGc (wi w1 711 y) a b q r H z h m L g x oo := fun p => SG_wi hyr ⟨by decide, by decide, by decide⟩ p
      generalize wi w1 711 y = w2 at kw wF w11 wA swi ⊢
      have k02 := KMc.tr kk kw
      have c2 := k02.2.1
      have a2 : ∀ r j, r ≠ 23 → A w2 r j = A w r j := fun r j hr => by
        rw [wA]
        show (w1.2.2.1 r j).toInt = _; rw [e1.1.2.2.1 r (by simp; exact hr)]; rfl
      have k0w : ∀ j, A w 29 j = A s0 29 j := fun j => pw.1.1.A (by simp)
      have w4 : F w2 441 = F w1 441 := wF 441 (by decide)
      have u41 := ev 441 (by decide)
      have m1 := kk.2.2.1
      have m2 := k02.2.2.2.1
      have e14 := f0 714 (by decide) (by decide)
      have e11 := f0 711 (by decide) (by decide)
      have hcs : CSX u cc ps := hx.1
      have wb := WB_1 hcs (lo := p0) (lo2 := p0) (hi2 := p - 1) (hi := p) (by omega) (by omega) (by omega) hpc
      refine ⟨KM2.tr ku0 k02.1.to2, ⟨c2.1, c2.2.2.2.2.1, c2.2.2.2.2.2.1, ⟨by rw [k02.2.2.2.2.2.1.1, f0 712 (by decide) (by decide)]; exact cv.2.2.2.1.1, by rw [k02.2.2.2.2.2.1.2, f0 713 (by decide) (by decide)]; exact cv.2.2.2.1.2⟩, c2.2.2.2.2.2.2.1⟩, ⟨by omega, by omega, fun z => by rw [← ev 711 (by decide), ← e11]; exact k02.2.2.2.2.1 z⟩, fun j hj => by rw [a2 29 j (by decide), k0w, a29n j hj, ea], fun z => ?_, fun gd => ?_⟩
      · have y0 : y = 0 := by rw [← w11]; exact z
        have z1 := (hy0 y0).1
        have := pw.2.2.1 (k1.2.2.2.2.1 z1)
        omega
      · have y0 : y = 0 := by rw [← w11]; exact gd.2.1
        obtain ⟨z1, z2⟩ := hy0 y0
        have g1 : GDc w1 p q1 := by
          have q14 := wF 714 (by decide)
          exact ⟨by rw [← q14]; exact gd.1, z1, by rw [← w4]; exact gd.2.2.1, gd.2.2.2.1, gd.2.2.2.2⟩
        obtain ⟨ol, y1, y2⟩ := (PC_em (hi := p) (q := q1) cw e1).2.2.2 g1
        obtain ⟨o1, z6, sl, ty⟩ := pw.2.2.2 (GD_u (hi1 := p - 1) (s := q1) cw k1 g1 (by omega) (Nat.le_refl _))
        have s1 : szc w1 = szc w + 1 := y1
        have sw2 : szc w2 = szc w1 := by show (F w2 441).toNat = _; rw [w4]
        have a41 := k1.2.2.2.2.2.2.2.2
        have i1 := ty (by omega)
        have i2 := SG_nocl (u := w1) (a := szc w) (q := q1) (z := 0) (h := k) (m := 0) (L := []) (g := 0) (x := 0) (by omega) (by omega) (by omega) (Or.inl (y2 0 (by simp)))
        have j1 := SG_kw cw i1 k1.1 ol (Nat.le_refl _) (Or.inl (Nat.le_refl _))
        have j := SG_seq j1 i2 (Nat.le_refl _) (fun _ => rfl)
        rw [List.append_nil, ← s1, S0] at j
        have su : F u 441 = ((szc u : Nat) : Int) := by have := hu.1; show F u 441 = (((F u 441).toNat : Nat) : Int); omega
        refine ⟨⟨fun j hj => ?_, fun pl hpl => ?_⟩, ?_, by omega, by rw [sw2]; exact swi j⟩
        · rw [wA, ol.1 j (by have := pw.1.2.2.1; omega), o1.1 j (by omega), aO 23 j (by decide) (by decide) (by decide), ea]
        · obtain ⟨b1, b2, b3⟩ := o1.2 pl hpl
          exact ⟨by rw [a2 30 pl (by decide), b1, aO 30 pl (by decide) (by decide) (by decide), ea], by rw [a2 31 pl (by decide), b2, aO 31 pl (by decide) (by decide) (by decide), ea], by rw [a2 32 pl (by decide), b3, aO 32 pl (by decide) (by decide) (by decide), ea]⟩
        · rw [a2 29 g (by decide), k0w, a29, u41]
          exact su
    unfold hb_Cm_oneFunction_263
    rw [i0, t0, I_A (w := w1) (k := 41), show (40 : Int32) = I 40 from rfl]
    have b41 := (c1.2.2.2.2.2.2.1 0 (by omega)).2
    refine k_F (y := 0) rfl ⟨by decide, by decide⟩ (fun z1 => ok_ck.mpr ⟨rfl, k_le ⟨by omega, by omega⟩ ⟨by decide, by decide⟩ (fun z2 => fin 0 (Or.inl rfl) (fun _ => ⟨z1, z2⟩)) (fun _ => fin 1 (Or.inr rfl) (fun z => absurd z (by decide)))⟩) (fun _ => fin 1 (Or.inr rfl) (fun z => absurd z (by decide)))
  have e73 : OK (fun w _ => FUQ u w g k ps p0 p q0 q1) (hb_Cm_oneFunction_73 N (hg_Cm_oneFunction N N) u (I ((g : Nat) : Int)) (I ((t : Nat) : Int))) := by
    unfold hb_Cm_oneFunction_73
    obtain ⟨z, e, z1, z2, z3, z4⟩ := fault_e (N := N) (u := u) (x := ((t : Nat) : Int)) (y := 4) hu.2.1 ⟨by omega, by omega⟩ ⟨by decide, by decide⟩
    have zr : RG z := ⟨by omega, by omega⟩
    rw [show (4 : Int32) = I 4 from rfl, e, bnd_so]
    have eF : ∀ j, j ≠ 714 → F (wi u 714 z) j = F u j := fun j hj => by rw [F_wi zr.1 zr.2, if_neg hj]
    have e4 : F (wi u 714 z) 714 = z := by rw [F_wi zr.1 zr.2, if_pos rfl]
    refine e79 (wi u 714 z) (FR.wi FR.rf (by simp)) ⟨by rw [eF 441 (by decide)]; exact hu.1, by rw [e4]; omega, by rw [eF 711 (by decide)]; exact hu.2.2.1, by rw [eF 712 (by decide), eF 713 (by decide)]; exact hu.2.2.2.1, hu.2.2.2.2⟩ (by rw [e4]; exact z2)
  have e79u := e79 u FR.rf hu (Int.le_refl _)
  unfold hm_Cm_oneFunction hb_Cm_oneFunction_0
  rw [ig, ck_t, tnI (n := g) rfl (by omega), I_A' h27, if1, ck_t, ck_t, ck_t, tnI (n := first) rfl (by omega), I_A (k := 24), I_A' h25, I_A' e17, ok_bnd]
  refine ok_mono (seekF_ok (N := N) hx.2.2.1 (A_r _ _ _) ⟨by omega, by omega⟩ (by omega)) (fun v r1 h1 => ?_)
  obtain ⟨rfl, h1⟩ := h1
  refine ok_br.mpr ⟨fun _ => ?_, fun _ => e73⟩
  rw [ck_t, ck_t, I_A (k := 24), I_A' h25, ok_bnd]
  refine ok_mono (preOf_ok (N := N) hx.2.1.1 hx.2.1.2 (A_r _ _ _) hk (by omega)) (fun v2 r2 h2 => ?_)
  obtain ⟨rfl, -⟩ := h2
  exact ok_br.mpr ⟨fun _ => e79u, fun _ => e73⟩
end
end
