/-! the reader of a text: what is ahead of = -/
set_option maxRecDepth 100000
section
variable {u v w : MS} {N c p n q o s p2 n2 q2 a b l lo hi r d most f t x q0 base first cl : Nat}
theorem ip_rowK {S : SF_Tr_isPattern} {E P : Nat → Nat → Nat → Nat → Nat → Nat → Nat → Prop} {R : Prop} (hbd : BdE E) (hb : b ≤ 8015) (he : ∀ m lo hi a2 b2 q r, b2 ≤ 8015 → E m lo hi a2 b2 q r → OK (fun w r2 => IPQ u (P m lo hi a2 b2 q r) w r2) (S u (I ((m : Nat) : Int))))
    (hend : ∀ M, OK (fun w r => IPQ u R w r) (hb_Tr_isPattern_129 N S (hg_Tr_isPattern N S M) u (I ((x : Nat) : Int)) (I 0))) : ∀ (k M m lo a q : Nat), RWcK u 1 26 E k m lo hi a b q r → k < M → OK (fun w r2 => IPQ u (RWcK u 1 26 P k m lo hi a b q r ∧ R) w r2) (hg_Tr_isPattern N S M u (I ((x : Nat) : Int)) (I ((m : Nat) : Int))) := by
  intro k
  induction k with
  | zero => intro M m lo a q h; exact h.elim
  | succ k ih =>
    intro M m lo a q h hM
    obtain ⟨m2, c, s, e, h⟩ := h
    have g := (hbd _ _ _ _ _ _ _ e).1
    have hcb : c ≤ b := by
      rcases h with ⟨-, -, -, h, -⟩ | ⟨-, n2, -, h3⟩
      · omega
      · have := (RW_hdK hbd h3).1.1; omega
    cases M with
    | zero => omega
    | succ M =>
      show OK _ (hb_Tr_isPattern_129 N S (hg_Tr_isPattern N S M) u (I ((x : Nat) : Int)) (I ((m : Nat) : Int)))
      unfold hb_Tr_isPattern_129
      refine k_eq (x := ((m : Nat) : Int)) (y := 0) ⟨by omega, by omega⟩ ⟨by decide, by decide⟩ (fun z => by omega) (fun _ => ?_)
      refine ok_bnd.mpr (ok_mono (he _ _ _ _ _ _ _ (by omega) e) (fun w r2 hw => ?_))
      obtain ⟨rfl, hr⟩ := hw
      rcases hr with rfl | ⟨rfl, hp⟩
      · refine ok_br.mpr ⟨fun _ => ip0, fun z => absurd z (by decide)⟩
      · refine ok_br.mpr ⟨fun z => absurd z (by decide), fun _ => ?_⟩
        refine e_in ⟨by omega, by omega⟩ (by decide) ?_
        rw [tnI (n := m) rfl (by omega), I_A (k := 21)]
        rcases h with ⟨h1, h2, h3, h4, h5⟩ | ⟨h1, n2, h2, h3⟩
        · rw [h2]
          cases M with
          | zero => omega
          | succ M =>
            refine ok_mono (hend M) (fun w3 r3 hw3 => ?_)
            obtain ⟨rfl, hr3⟩ := hw3
            refine ⟨rfl, ?_⟩
            rcases hr3 with hr3 | ⟨hr3, hr4⟩
            · exact Or.inl hr3
            · exact Or.inr ⟨hr3, ⟨m2, c, s, hp, Or.inl ⟨h1, h2, h3, h4, h5⟩⟩, hr4⟩
        · rw [h2]
          refine ok_mono (ih M n2 (m2 + 1) c s h3 (by omega)) (fun w3 r3 hw3 => ?_)
          obtain ⟨rfl, hr3⟩ := hw3
          refine ⟨rfl, ?_⟩
          rcases hr3 with hr3 | ⟨hr3, hr4, hr5⟩
          · exact Or.inl hr3
          · exact Or.inr ⟨hr3, ⟨m2, c, s, hp, Or.inr ⟨h1, n2, h2, hr4⟩⟩, hr5⟩
theorem isPat_okK (hN : 10000 ≤ N) : ∀ (f d o cl x lo hi a b q r : Nat), f ≤ d → XPcK u f o cl x lo hi a b q r → b ≤ 8015 → OK (fun w r2 => IPQ u (PAcK u f x lo hi a b q r) w r2) (hrc_Tr_isPattern N d u (I ((x : Nat) : Int))) := by
  intro f
  induction f with
  | zero => intro d o cl x lo hi a b q r _ h; exact h.elim
  | succ f ih =>
    intro d o cl x lo hi a b q r hd h hb
    cases d with
    | zero => omega
    | succ d =>
      show OK _ (hm_Tr_isPattern N (hrc_Tr_isPattern N d) u (I ((x : Nat) : Int)))
      obtain ⟨h1, h2, h3, h4⟩ := h
      have hn := h1.1
      have he : ∀ o cl m lo hi a2 b2 q r, b2 ≤ 8015 → XPcK u f o cl m lo hi a2 b2 q r → OK (fun w r2 => IPQ u (PAcK u f m lo hi a2 b2 q r) w r2) (hrc_Tr_isPattern N d u (I ((m : Nat) : Int))) := fun o cl m lo hi a2 b2 q r hb2 h => ih d o cl m lo hi a2 b2 q r (by omega) h hb2
      rcases h4 with ⟨h4, h5, h6⟩ | ⟨h4, m, c, h5, h6, h7⟩ | ⟨h4, h5, -⟩ | ⟨h4, h5, -⟩ | ⟨h4, -⟩ | ⟨h4, -⟩ | ⟨h4, -⟩ | ⟨h4, -⟩ | ⟨h4, -⟩ | ⟨h4, -⟩ | ⟨h4, -⟩ | ⟨h4, -⟩ | ⟨h4, h5, m, c, h6, h7, h8⟩ | ⟨h4, -⟩ | ⟨h4, -⟩ | ⟨h4, -⟩ | ⟨h4, -⟩
      · have pa : PAcK u (f + 1) x lo hi a b q r := ⟨h1, h2, h6, Or.inl ⟨h4, h5.1⟩⟩
        have e := h4.1
        unfold hm_Tr_isPattern hb_Tr_isPattern_0
        refine e_in ⟨by omega, by omega⟩ (by decide) ?_
        rw [tnI (n := x) rfl (by omega), I_A (k := 16), e]
        have cs : A u 6 lo = 1 ∨ A u 6 lo = 2 ∨ A u 6 lo = 3 ∨ A u 6 lo = 4 := by have := h4.2.1; omega
        rcases cs with e | e | e | e <;> (rw [e]; exact ip1 pa)
      · have b1 := (XP_bdK _ _ _ _ _ _ _ _ _ _ h6).1
        unfold hm_Tr_isPattern hb_Tr_isPattern_0
        refine e_in ⟨by omega, by omega⟩ (by decide) ?_
        rw [tnI (n := x) rfl (by omega), I_A (k := 16), h4]
        show OK _ (ck (inb (I ((x : Nat) : Int)) 8016) (bnd (hrc_Tr_isPattern N d u (u.2.2.1 18 x)) (fun u21 r21 => ck (isb r21) (some (u21, r21)))))
        refine e_in ⟨by omega, by omega⟩ (by decide) ?_
        rw [I_A (k := 18), h5]
        refine ok_bnd.mpr (ok_mono (he _ _ _ _ _ _ _ _ _ (by omega) h6) (fun w r2 hw => ?_))
        obtain ⟨rfl, hr⟩ := hw
        rcases hr with rfl | ⟨rfl, hp⟩
        · exact ip0
        · exact ip1 ⟨h1, h2, PAqK hp, Or.inr (Or.inr (Or.inl ⟨h4, m, c, h5, hp, h7.1, h7.2.1, h7.2.2.1⟩))⟩
      · obtain ⟨k, m, c, h6, h7, h8, h9, h10⟩ := h5
        unfold hm_Tr_isPattern hb_Tr_isPattern_0
        refine e_in ⟨by omega, by omega⟩ (by decide) ?_
        rw [tnI (n := x) rfl (by omega), I_A (k := 16), h4]
        show OK _ (ck (inb (I ((x : Nat) : Int)) 8016) (hg_Tr_isPattern N (hrc_Tr_isPattern N d) N u (I ((x : Nat) : Int)) (u.2.2.1 18 x)))
        refine e_in ⟨by omega, by omega⟩ (by decide) ?_
        rw [I_A (k := 18), h6]
        have pa : ORcK u 1 26 (PAcK u f) k m (lo + 1) (hi - 1) a c q r → PAcK u (f + 1) x lo hi a b q r := fun z => ⟨h1, h2, ORqK (fun _ _ _ _ _ _ _ h => PAqK h) z, Or.inr (Or.inr (Or.inr (Or.inl ⟨h4, k, m, c, h6, h7, h8, z, h10⟩)))⟩
        rcases h9 with h9 | ⟨h9, h11⟩
        · rw [h9.2.1]
          cases N with
          | zero => omega
          | succ N' =>
            refine ok_mono (ip6 (N := N' + 1) (by omega) h4 N') (fun w r2 hw => ?_)
            obtain ⟨rfl, hr⟩ := hw
            refine ⟨rfl, ?_⟩
            rcases hr with hr | ⟨hr, -⟩
            · exact Or.inl hr
            · exact Or.inr ⟨hr, pa (Or.inl h9)⟩
        · have rh := (RW_hdK (XP_bdK _ _ _) h11).1
          refine ok_mono (ip_rowK (N := N) (R := True) (XP_bdK _ _ _) (by omega) (fun m lo hi a2 b2 q r hb2 h => he _ _ _ _ _ _ _ _ _ hb2 h) (fun M => ip6 (by omega) h4 M) k N m (lo + 1) a q h11 (by omega)) (fun w r2 hw => ?_)
          obtain ⟨rfl, hr⟩ := hw
          refine ⟨rfl, ?_⟩
          rcases hr with hr | ⟨hr, hr2, -⟩
          · exact Or.inl hr
          · exact Or.inr ⟨hr, pa (Or.inr ⟨h9, hr2⟩)⟩
      · obtain ⟨k, m, mid, c, s, h6, h7, h8, h9, h10⟩ := h5
        unfold hm_Tr_isPattern hb_Tr_isPattern_0
        refine e_in ⟨by omega, by omega⟩ (by decide) ?_
        rw [tnI (n := x) rfl (by omega), I_A (k := 16), h4]
        show OK _ (ck (inb (I ((x : Nat) : Int)) 8016) (hg_Tr_isPattern N (hrc_Tr_isPattern N d) N u (I ((x : Nat) : Int)) (u.2.2.1 18 x)))
        refine e_in ⟨by omega, by omega⟩ (by decide) ?_
        rw [I_A (k := 18), h6]
        -- what stands behind the bar
        have hend : ∀ M, OK (fun w r2 => IPQ u ((A u 20 x = 0 ∧ hi = mid + 1 ∧ s = r ∧ c < x) ∨ ((1 ≤ k ∧ A u 6 mid = 29) ∧ ∃ y c2 : Nat, A u 20 x = ((y : Nat) : Int) ∧ PAcK u f y (mid + 1) (hi - 1) c c2 s r ∧ c2 < x)) w r2) (hb_Tr_isPattern_129 N (hrc_Tr_isPattern N d) (hg_Tr_isPattern N (hrc_Tr_isPattern N d) M) u (I ((x : Nat) : Int)) (I 0)) := fun M => by
          unfold hb_Tr_isPattern_129 hb_Tr_isPattern_186 hb_Tr_isPattern_191
          rw [show decide (I 0 = (0 : Int32)) = true from by decide, br_t]
          refine e_in ⟨by omega, by omega⟩ (by decide) ?_
          rw [tnI (n := x) rfl (by omega), I_A (k := 16), h4]
          rw [show decide (I 7 = (6 : Int32)) = false from by decide, br_f]
          refine e_in ⟨by omega, by omega⟩ (by decide) ?_
          rw [I_A (k := 20)]
          rcases h10 with ⟨h10, h11⟩ | ⟨h10, y, c2, h11, h12, h13⟩
          · rw [h10]
            exact ok_br.mpr ⟨fun _ => ip1 (Or.inl ⟨rfl, h11⟩), fun z => absurd z (by decide)⟩
          · have b1 := (XP_bdK _ _ _ _ _ _ _ _ _ _ h12).1
            rw [h11]
            refine k_eq (x := ((y : Nat) : Int)) (y := 0) ⟨by omega, by omega⟩ ⟨by decide, by decide⟩ (fun z => by omega) (fun _ => ?_)
            refine e_in ⟨by omega, by omega⟩ (by decide) ?_
            refine ok_bnd.mpr (ok_mono (he _ _ _ _ _ _ _ _ _ (by omega) h12) (fun w r2 hw => ?_))
            obtain ⟨rfl, hr⟩ := hw
            rcases hr with rfl | ⟨rfl, hp⟩
            · exact ok_br.mpr ⟨fun _ => ip0, fun z => absurd z (by decide)⟩
            · exact ok_br.mpr ⟨fun z => absurd z (by decide), fun _ => ip1 (Or.inr ⟨h10, y, c2, rfl, hp, h13⟩)⟩
        have hc : c < x := by
          rcases h10 with ⟨-, -, -, h⟩ | ⟨-, y, c2, -, h6, h7⟩
          · exact h
          · have := (XP_bdK _ _ _ _ _ _ _ _ _ _ h6).1; omega
        have pa : ORcK u 1 26 (PAcK u f) k m (lo + 1) mid a c q s → ((A u 20 x = 0 ∧ hi = mid + 1 ∧ s = r ∧ c < x) ∨ ((1 ≤ k ∧ A u 6 mid = 29) ∧ ∃ y c2 : Nat, A u 20 x = ((y : Nat) : Int) ∧ PAcK u f y (mid + 1) (hi - 1) c c2 s r ∧ c2 < x)) → PAcK u (f + 1) x lo hi a b q r := fun z1 z2 => by
          have tl : TLcK u (PAcK u f) x lo hi a q r := ⟨k, m, mid, c, s, h6, h7, h8, z1, z2⟩
          exact ⟨h1, h2, TLqK tl, Or.inr (Or.inr (Or.inr (Or.inr ⟨h4, tl⟩)))⟩
        rcases h9 with h9 | ⟨h9, h11⟩
        · rw [h9.2.1]
          cases N with
          | zero => omega
          | succ N' =>
            refine ok_mono (hend N') (fun w r2 hw => ?_)
            obtain ⟨rfl, hr⟩ := hw
            refine ⟨rfl, ?_⟩
            rcases hr with hr | ⟨hr, hr2⟩
            · exact Or.inl hr
            · exact Or.inr ⟨hr, pa (Or.inl h9) hr2⟩
        · have rh := (RW_hdK (XP_bdK _ _ _) h11).1
          refine ok_mono (ip_rowK (N := N) (XP_bdK _ _ _) (by omega) (fun m lo hi a2 b2 q r hb2 h => he _ _ _ _ _ _ _ _ _ hb2 h) hend k N m (lo + 1) a q h11 (by omega)) (fun w r2 hw => ?_)
          obtain ⟨rfl, hr⟩ := hw
          refine ⟨rfl, ?_⟩
          rcases hr with hr | ⟨hr, hr2, hr3⟩
          · exact Or.inl hr
          · exact Or.inr ⟨hr, pa (Or.inr ⟨h9, hr2⟩) hr3⟩
      · exact ipK hN (by omega) h4 (by omega) (by omega)
      · exact ipK hN (by omega) h4 (by omega) (by omega)
      · exact ipK hN (by omega) h4 (by omega) (by omega)
      · exact ipK hN (by omega) h4 (by omega) (by omega)
      · exact ipK hN (by omega) h4 (by omega) (by omega)
      · exact ipK hN (by omega) h4 (by omega) (by omega)
      · exact ipK hN (by omega) h4 (by omega) (by omega)
      · exact ipK hN (by omega) h4 (by omega) (by omega)
      · rcases h4 with h4 | h4
        · have b1 := (XP_bdK _ _ _ _ _ _ _ _ _ _ h7).1
          unfold hm_Tr_isPattern hb_Tr_isPattern_0 hb_Tr_isPattern_110
          refine e_in ⟨by omega, by omega⟩ (by decide) ?_
          rw [tnI (n := x) rfl (by omega), I_A (k := 16), h4]
          show OK _ (ck (inb (I ((x : Nat) : Int)) 8016) (ck (inb (u.2.2.1 18 x) 8016) (br (decide ((u.2.2.1 16 (u.2.2.1 18 x).toNatClampNeg) = 1)) (ck (isb (1 : Int32)) (some (u, (1 : Int32)))) (ck (isb (0 : Int32)) (some (u, (0 : Int32)))))))
          refine e_in ⟨by omega, by omega⟩ (by decide) ?_
          rw [I_A (k := 18), h6]
          refine e_in ⟨by omega, by omega⟩ (by decide) ?_
          rw [tnI (n := m) rfl (by omega), I_A (k := 16), lit1]
          refine k_eq (A_r u 16 m) ⟨by decide, by decide⟩ (fun e1 => ip1 ?_) (fun _ => ip0)
          cases f with
          | zero => exact h7.elim
          | succ f =>
            obtain ⟨g1, g2, g3, g4⟩ := h7
            rcases g4 with ⟨g4, g5, g6⟩ | ⟨g4, -⟩ | ⟨g4, -⟩ | ⟨g4, -⟩ | ⟨g4, -⟩ | ⟨g4, -⟩ | ⟨g4, -⟩ | ⟨g4, -⟩ | ⟨g4, -⟩ | ⟨g4, -⟩ | ⟨g4, -⟩ | ⟨g4, -⟩ | ⟨g4, -⟩ | ⟨g4, -⟩ | ⟨g4, -⟩ | ⟨g4, -⟩ | ⟨g4, -⟩
            · exact ⟨h1, h2, g6, Or.inr (Or.inl ⟨h4, m, h6, ⟨by omega, by omega, by omega⟩, g4, by rw [← g4.1]; exact e1, by omega, h8.2.1 h4⟩)⟩
            all_goals (exfalso; omega)
        · exact ipK hN (by omega) h4 (by omega) (by omega)
      · exact ipK hN (by omega) h4 (by omega) (by omega)
      · exact ipK hN (by omega) h4 (by omega) (by omega)
      · exact ipK hN (by omega) h4 (by omega) (by omega)
      · exact ipK hN (by omega) h4 (by omega) (by omega)
theorem matched_okcK {S : SF_Pa_matched} (ho : o ≤ 25)
    (hx : ∀ y : Int32, ∀ u c p n q s, PSI u c p n q o s → OK (fun w r => NDQ (fun w m lo hi a b q r => GwK o w m lo hi a b q r ∧ A w 21 m = 0 ∧ (y = 0 → A w 6 lo ≠ 9)) u c p n q o s w r) (S.2.2.2.2.2.2.2.2.2.2.2.2.2.2.1 u y))
    (h : PSI u c p n q o s) (em : UwK 2 o u x lo p a n q0 q) (x0 : A u 21 x = 0) (ha2 : a ≤ 2 * lo) (hN : 10000 ≤ N) : OK (fun w r => NDQ (fun w m _ hi _ b _ r => UwK 3 o w m lo hi a b q0 r ∧ A w 21 m = 0) u c p n q o s w r) (hm_Pa_matched N S u (I ((x : Nat) : Int))) := by
  have hc := h.1.1
  have h2p := h.2.2.1.2
  have hd := Uw_bdK u _ _ _ _ _ _ _ em
  unfold HDc at hd
  have n8 : n ≤ 8000 := by have := h.2.1.2; omega
  have e41 : ∀ (k : Int), (k = 30 ∨ k = 36) → A u 6 p = k → (k = 30 → PAcK u (4 * (26 - o) + 2) x lo p a n q0 q) → OK (fun w r => NDQ (fun w m _ hi _ b _ r => UwK 3 o w m lo hi a b q0 r ∧ A w 21 m = 0) u c p n q o s w r) (hb_Pa_matched_41 N S () u (I ((x : Nat) : Int)) (I k)) := fun k hk ek pa => by
    unfold hb_Pa_matched_41
    obtain ⟨hpc, h2⟩ := PSI_at h (by omega)
    refine ok_lt.mpr ?_
    rw [inc_e h, show u.1 665 = I ((p : Nat) : Int) by rw [I_F (k := 665), h.2.1.1]]
    have g1 : KPG u (wi u 665 ((p + 1 : Nat) : Int)) := KPG_at
    have o1 : OLDc u (wi u 665 ((p + 1 : Nat) : Int)) n s := OLDc.row rfl
    generalize wi u 665 ((p + 1 : Nat) : Int) = v at h2 g1 o1
    have e69 : ∀ K : Int, (K = 20 ∧ k = 30 ∨ K = 21 ∧ k = 36) → OK (fun w r => NDQ (fun w m _ hi _ b _ r => UwK 3 o w m lo hi a b q0 r ∧ A w 21 m = 0) u c p n q o s w r) (hb_Pa_matched_69 N S () v (I ((x : Nat) : Int)) (I ((p : Nat) : Int)) (I K)) := fun K hK => by
      unfold hb_Pa_matched_69
      refine ok_T (ok_mono (hx 0 v c (p + 1) n q s h2) (fun w5 r hw5 => ?_))
      obtain ⟨g5, hw5⟩ := hw5
      cases r with
      | inr k => exact ⟨g1.tr g5, hw5⟩
      | inl x2 =>
        obtain ⟨y, p5, n5, q5, rfl, ol5, hv5, hp5, ey, -, n9⟩ := hw5
        have n9 := n9 rfl
        have hd5 := Gw_bdK w5 _ _ _ _ _ _ _ ey
        unfold HDc at hd5
        have n5b : n5 ≤ 8000 := by have := hv5.2.2.1.2; have := hv5.2.1.2; omega
        have p5c := hv5.2.1.2
        rw [lit0]
        refine add_B hv5 (by omega) ⟨by omega, by omega⟩ ⟨by omega, by omega⟩ ⟨by omega, by omega⟩ ⟨by omega, by omega⟩ ⟨by decide, by decide⟩ (fun w6 g6 o6 h6 fa => ok_some.mpr ?_)
        obtain ⟨f1, f2, f3, f4, f5, f6⟩ := fa
        have gu6 : KPG u w6 := g1.tr (g5.tr g6)
        have ou6 : OLDc u w6 n s := OLDc.tr o1 (OLDc.tr ol5 o6 (by omega)) (Nat.le_refl _)
        have ey6 : XPcK w6 (4 * (26 - o) + 2) (o + 1) 3 y (p + 1) p5 n n5 q q5 := XP_kK (by omega) (Nat.le_refl _) _ _ _ _ _ _ _ ey (KN_old g6 o6 (Nat.le_refl _))
        refine ⟨gu6, n5 + 1, p5, n5 + 1, q5, rfl, ou6, h6, by omega, ?_, f6⟩
        refine ⟨⟨⟨by omega, by omega⟩, by omega, by omega, by omega, by omega⟩, ⟨p, f2, by omega, by omega⟩, ho, ?_⟩
        rcases hK with ⟨hK, hk3⟩ | ⟨hK, hk6⟩
        · have pa1 := pa hk3
          have eq := PAqK pa1
          have pa2 := PA_kK (w := w6) (Nat.le_refl _) _ _ _ _ _ _ _ pa1 (KN_old gu6 ou6 (Nat.le_refl _))
          rw [← eq] at pa2 ey6
          exact Or.inr (Or.inr (Or.inr (Or.inr (Or.inr (Or.inr (Or.inr (Or.inr (Or.inr (Or.inr (Or.inr (Or.inr (Or.inr (Or.inr (Or.inl ⟨by rw [f1, hK], Nat.le_refl _, x, y, p, n, n5, f3, pa2, f4, ey6, by omega, by rw [gu6.a6, ek]; exact hk3, by rw [g6.a6]; exact n9⟩))))))))))))))
        · exact Or.inr (Or.inr (Or.inr (Or.inr (Or.inr (Or.inr (Or.inr (Or.inr (Or.inr (Or.inr (Or.inr (Or.inr (Or.inr (Or.inr (Or.inr (Or.inl ⟨by rw [f1, hK], Nat.le_refl _, x, y, p, n, n5, q, f3, Uw_stK u w6 _ _ _ _ _ _ _ em (KN_old gu6 ou6 (Nat.le_refl _)), f4, ey6, by omega, by rw [gu6.a6, ek]; exact hk6, by rw [g6.a6]; exact n9⟩)))))))))))))))
    rw [show (30 : Int32) = I 30 from rfl]
    exact k_eq ⟨by omega, by omega⟩ ⟨by decide, by decide⟩ (fun e => e69 20 (Or.inl ⟨rfl, e⟩)) (fun n30 => e69 21 (Or.inr ⟨rfl, by omega⟩))
  have e19 : ∀ (k : Int), (k = 30 ∨ k = 36) → A u 6 p = k → OK (fun w r => NDQ (fun w m _ hi _ b _ r => UwK 3 o w m lo hi a b q0 r ∧ A w 21 m = 0) u c p n q o s w r) (hb_Pa_matched_19 N S () u (I ((x : Nat) : Int)) (I k)) := fun k hk ek => by
    unfold hb_Pa_matched_19
    rw [show (30 : Int32) = I 30 from rfl]
    refine k_eq ⟨by omega, by omega⟩ ⟨by decide, by decide⟩ (fun e => ?_) (fun ne => e41 k hk ek (fun z => absurd z ne))
    refine ok_bnd.mpr (ok_mono (isPat_okK hN (4 * (26 - o) + 2) 300 o 2 x lo p a n q0 q (by omega) em (by omega)) (fun w r2 hw => ?_))
    obtain ⟨rfl, hr⟩ := hw
    rcases hr with rfl | ⟨rfl, hp⟩
    · exact ok_br.mpr ⟨fun _ => refuse_T h (fun w gw => ⟨gw, rfl⟩), fun z => absurd z (by decide)⟩
    · exact ok_br.mpr ⟨fun z => absurd z (by decide), fun _ => e41 k hk ek (fun _ => hp)⟩
  unfold hm_Pa_matched hb_Pa_matched_0
  refine look_T h (fun w gw => ⟨gw, rfl⟩) (fun h45 => ?_)
  rw [show (30 : Int32) = I 30 from rfl, show (36 : Int32) = I 36 from rfl]
  exact k_eq (A_r u 6 p) ⟨by decide, by decide⟩ (fun e => e19 _ (Or.inl e) rfl) (fun _ => k_eq (A_r u 6 p) ⟨by decide, by decide⟩ (fun e => e19 _ (Or.inr e) rfl) (fun _ => ok_some.mpr ⟨KPG.rf, x, p, n, q, rfl, OLDc.rf, h, Nat.le_refl _, XP_kK (by omega) (by omega) _ _ _ _ _ _ _ em (KN_old KPG.rf (OLDc.rf (n := n) (s := 0)) (Nat.le_refl _)), x0⟩))
end
