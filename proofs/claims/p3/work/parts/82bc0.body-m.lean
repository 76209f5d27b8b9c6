section
set_option maxRecDepth 100000
def BoS (N : Nat) (S : SF_Cm_fun) (o : Nat) : Prop := ∀ (f k : Nat) (u : MS) (lv c Q : Nat) (ps : Nat → Nat) (n lo hi a b q r la : Nat), f ≤ 120 → CMP u lv c ps Q o lo → RWc u 1 (XPc u f o 3) k n lo hi a b q r → b ≤ 8000 → hi ≤ c → r ≤ Q → la ≤ 1 → OK (fun w _ => PXS u w lv ps lo hi q r o (la = 1) 1) (S.2.2.2.1 u (I ((n : Nat) : Int)) (I ((la : Nat) : Int)))
section
variable {u v w : MS} {N lv t hi lo o q r s c h m g x d a b k n f Q la : Nat} {ps : Nat → Nat} {S : SF_Cm_fun} {W B : Int} {Y : Prop}
theorem bodyX_ok (hE : ExS N S o 3) (hla : la ≤ 1) : ∀ (k M : Nat) (n lo hi a b q r : Nat) (u : MS), f ≤ 120 → CMP u lv c ps Q o lo → RWc u 1 (XPc u f o 3) k n lo hi a b q r → b ≤ 8000 → hi ≤ c → r ≤ Q → k + 1 ≤ M → OK (fun w _ => PXS u w lv ps lo hi q r o (la = 1) 1) (hg_Cm_body N S M u (I ((la : Nat) : Int)) (I ((n : Nat) : Int)))
  | 0, _, _, _, _, _, _, _, _, _, _, _, h, _, _, _, _ => h.elim
  | k + 1, M, n, lo, hi, a, b, q, r, u, hf, hu, h, hb, hh, hQ, hM => by
    obtain ⟨M, rfl⟩ : ∃ M2, M = M2 + 1 + 1 := ⟨M - 2, by omega⟩
    show OK _ (hb_Cm_body_2 N S (hg_Cm_body N S (M + 1)) u (I ((la : Nat) : Int)) (I ((n : Nat) : Int)))
    obtain ⟨m, c2, s, e, h⟩ := h
    have he := XP_bd f o 3 _ _ _ _ _ _ _ e
    unfold HDc at he
    have hms : m ≤ hi ∧ c2 ≤ b ∧ s ≤ r := by
      rcases h with ⟨-, -, h1, h2, h3⟩ | ⟨-, n2, -, h3⟩
      · omega
      · have := (RW_hd (XP_bd f o 3) h3).1; unfold HDc at this; omega
    have hcs := CMP_c hu
    have i1 : inb (I ((n : Nat) : Int)) 8016 = true := (I_inb (by omega) (by omega)).mpr ⟨by omega, by omega⟩
    unfold hb_Cm_body_2 hb_Cm_body_23 hb_Cm_body_40
    refine k_c (y := 0) rfl ⟨by omega, by omega⟩ ⟨by decide, by decide⟩ (fun z => absurd z (by omega)) (fun _ => ?_)
    rw [i1, ck_t, tnI (n := n) rfl (by omega), I_A (k := 21)]
    rcases h with ⟨k0, h0, rfl, rfl, rfl⟩ | ⟨-, n2, h2, h3⟩
    · rw [h0]
      refine k_c (y := 0) rfl ⟨by decide, by decide⟩ ⟨by decide, by decide⟩ (fun _ => ?_) (fun z => absurd rfl z)
      have e41 : OK (fun w _ => PXS u w lv ps lo m q s o (la = 1) 1) (hb_Cm_body_41 N S (hg_Cm_body N S (M + 1)) u (I ((la : Nat) : Int)) (I ((n : Nat) : Int)) 0 (I ((n : Nat) : Int)) (I ((la : Nat) : Int))) := by
        unfold hb_Cm_body_41
        rw [ok_bnd]
        refine ok_mono (hE f u lv c Q ps n lo m a c2 q s la hf hu e hb hh hQ hla) (fun v _ p1 => ?_)
        refine ok_br.mpr ⟨fun _ => ?_, fun z => absurd z (by decide)⟩
        unfold hb_Cm_body_58
        rw [i1, ck_t, tnI (n := n) rfl (by omega), I_A (k := 21), p1.1.1.A (j := 21) (by simp), h0]
        show OK _ (hb_Cm_body_2 N S (hg_Cm_body N S M) v (I ((la : Nat) : Int)) (I 0))
        unfold hb_Cm_body_2
        exact k_c (y := 0) rfl ⟨by decide, by decide⟩ ⟨by decide, by decide⟩ (fun _ => ok_some.mpr p1) (fun z => absurd rfl z)
      rcases (by omega : la = 0 ∨ la = 1) with rfl | rfl
      · exact k_c (y := 0) rfl ⟨by decide, by decide⟩ ⟨by decide, by decide⟩ (fun _ => e41) (fun z => absurd rfl z)
      · refine k_c (y := 0) rfl ⟨by decide, by decide⟩ ⟨by decide, by decide⟩ (fun z => absurd z (by decide)) (fun _ => ?_)
        exact ok_br.mpr ⟨fun _ => e41, fun z => absurd z (by decide)⟩
    · rw [h2]
      have g1 := (RW_hd (XP_bd f o 3) h3).1
      unfold HDc at g1
      refine k_c (y := 0) rfl ⟨by omega, by omega⟩ ⟨by decide, by decide⟩ (fun z => absurd z (by omega)) (fun _ => ?_)
      have e41 : OK (fun w _ => PXS u w lv ps lo hi q r o (la = 1) 1) (hb_Cm_body_41 N S (hg_Cm_body N S (M + 1)) u (I ((la : Nat) : Int)) (I ((n : Nat) : Int)) 1 (I ((n : Nat) : Int)) 0) := by
        unfold hb_Cm_body_41
        rw [ok_bnd]
        refine ok_mono (hE f u lv c Q ps n lo m a c2 q s 0 hf hu e (by omega) (by omega) (by omega) (by omega)) (fun v _ p1 => ?_)
        refine ok_br.mpr ⟨fun z => absurd z (by decide), fun _ => ?_⟩
        refine put_1 (x := 15) p1.1.2.1.1 ⟨by decide, by decide⟩ (fun w1 e1 => ?_)
        have p2 := PC_tail (hi := m) (W := WBc ps lo m + 1) (la := False) (d2 := 0) p1 e1 (by omega) (Nat.le_refl _) (by simp) (fun z => absurd z (by decide)) (fun h m L g x p gd l15 hm hh hw => SG_drop (by omega) (by omega) hm (hw 0 (by simp)) (by omega))
        unfold hb_Cm_body_58
        rw [i1, ck_t, tnI (n := n) rfl (by omega), I_A (k := 21), p2.1.1.A (j := 21) (by simp), h2]
        have hw : CMP w1 lv c ps Q o (m + 1) := CMP_k hu p2.1 (by have := p2.2.1.2; have := hu.2.2.2.2; omega) (Nat.le_refl _)
        refine ok_mono (bodyX_ok hE hla k (M + 1) n2 (m + 1) hi c2 b s r w1 hf hw (RW_k (XP_k (Nat.le_refl _) (Nat.le_refl _)) (XP_bd f o 3) h3 (KN_m p2.1.1)) hb hh hQ (by omega)) (fun w _ p3 => ?_)
        have wb := WB_2 hcs.1 (lo := lo) (m := m) (lo2 := m + 1) (hi := hi) (by omega) (by omega) (by omega) hh
        have p4 := PC_two hu.1 p2 p3 (by omega) (by omega) (by omega) (hd := by omega) (W := WBc ps lo hi) (t := hi - lo) (by omega) (by omega)
        rw [Nat.zero_add] at p4
        exact p4
      refine ok_br.mpr ⟨fun _ => e41, fun _ => ok_br.mpr ⟨fun z => absurd z (by decide), fun _ => e41⟩⟩
theorem bodyC_ok (hE : ExS N S o 3) (hN : 10000 ≤ N) {S2 : SF_Cm_fun} (h2 : S2.2.2.2.1 = hm_Cm_body N S) : BoS N S2 o := by
  intro f k u lv c Q ps n lo hi a b q r la hf hu h hb hh hQ hla
  rw [h2]
  have := RW_cnt (XP_bd f o 3) h
  exact bodyX_ok hE hla k N n lo hi a b q r u hf hu h hb hh hQ (by omega)
theorem PC_flag {y : Int} (hk : k = 712 ∨ k = 713) (cu : CVI u lv) (hy : y = 0 ∨ y = 1) (p : PCQ (wi u k y) w lv W t hi q r Y) : PCQ u (wi w k (F u k)) lv W t hi q r (szc (wi u k y) = szc u ∧ Y) := by
  have hr : RG y := ⟨by omega, by omega⟩
  have fr := FRG1 u k
  have eu : ∀ j, j ≠ k → F (wi u k y) j = F u j := fun j hj => by rw [F_wi hr.1 hr.2, if_neg hj]
  have ew : ∀ j, j ≠ k → F (wi w k (F u k)) j = F w j := fun j hj => by rw [F_wi fr.1 fr.2, if_neg hj]
  have ek : F (wi w k (F u k)) k = F u k := by rw [F_wi fr.1 fr.2, if_pos rfl]
  have eA : ∀ r j, A (wi w k (F u k)) r j = A w r j := fun _ _ => rfl
  have eB : ∀ r j, A (wi u k y) r j = A u r j := fun _ _ => rfl
  have n4 : 441 ≠ k := by omega
  have n6 : 706 ≠ k := by omega
  have n9 : 709 ≠ k := by omega
  have n11 : 711 ≠ k := by omega
  have n14 : 714 ≠ k := by omega
  have h12 := cu.2.2.2.1
  obtain ⟨⟨k1, k2, k3, k4, k5, k6, k7, k8, k9⟩, p2, p3, p4⟩ := p
  obtain ⟨g1, g2, g3, g4, g5, g6, g7, g8, g9⟩ := k2
  rw [eu 441 n4] at k3
  rw [eu 714 n14] at k4
  rw [eu 711 n11] at k5
  rw [eu 706 n6] at p2
  rw [eu 441 n4] at p3
  have km : KMF u (wi w k (F u k)) := by
    have f1 : KMF u (wi u k y) := FR.wi FR.rf (by rcases hk with rfl | rfl <;> simp)
    exact FR.wi (FR.tr f1 k1) (by rcases hk with rfl | rfl <;> simp)
  have f12 : F (wi w k (F u k)) 712 = F u 712 := by
    rcases hk with rfl | rfl
    · exact ek
    · rw [ew 712 (by decide), k6.1, eu 712 (by decide)]
  have f13 : F (wi w k (F u k)) 713 = F u 713 := by
    rcases hk with rfl | rfl
    · rw [ew 713 (by decide), k6.2, eu 713 (by decide)]
    · exact ek
  refine ⟨⟨km, ⟨by rw [ew 441 n4]; exact g1, by rw [ew 706 n6]; exact g2, by rw [ew 709 n9]; exact g3, by rw [f12, f13]; exact h12, by rw [ew 714 n14]; exact g5, by rw [ew 711 n11]; exact g6, g7, by rw [ew 706 n6]; exact g8, by rw [ew 706 n6]; exact g9⟩, by rw [ew 441 n4]; exact k3, by rw [ew 714 n14]; exact k4, fun z => k5 (by rw [ew 711 n11] at z; exact z), ⟨f12, f13⟩, fun j hj => k7 j hj, fun j hj => k8 j hj, k9⟩, by rw [ew 706 n6]; exact p2, fun z => by rw [ew 711 n11] at z; rw [ew 441 n4]; exact p3 z, fun gd => ?_⟩
  have gw : GDc w hi r := by
    unfold GDc at gd ⊢
    rw [ew 714 n14, ew 711 n11, ew 441 n4] at gd
    exact gd
  obtain ⟨o1, y1⟩ := p4 gw
  exact ⟨⟨fun j hj => o1.1 j (by rw [eu 441 n4]; exact hj), o1.2⟩, by show (F (wi u k y) 441).toNat = _; rw [eu 441 n4], y1⟩
theorem CVI_flag {y : Int} (hk : k = 712 ∨ k = 713) (cu : CVI u lv) (hy : y = 0 ∨ y = 1) : CVI (wi u k y) lv := by
  have hr : RG y := ⟨by omega, by omega⟩
  have eu : ∀ j, j ≠ k → F (wi u k y) j = F u j := fun j hj => by rw [F_wi hr.1 hr.2, if_neg hj]
  have ek : F (wi u k y) k = y := by rw [F_wi hr.1 hr.2, if_pos rfl]
  have n4 : 441 ≠ k := by omega
  have n6 : 706 ≠ k := by omega
  have n9 : 709 ≠ k := by omega
  have n11 : 711 ≠ k := by omega
  have n14 : 714 ≠ k := by omega
  obtain ⟨g1, g2, g3, g4, g5, g6, g7, g8, g9⟩ := cu
  refine ⟨by rw [eu 441 n4]; exact g1, by rw [eu 706 n6]; exact g2, by rw [eu 709 n9]; exact g3, ?_, by rw [eu 714 n14]; exact g5, by rw [eu 711 n11]; exact g6, g7, by rw [eu 706 n6]; exact g8, by rw [eu 706 n6]; exact g9⟩
  rcases hk with rfl | rfl
  · exact ⟨by rw [ek]; exact hy, by rw [eu 713 (by decide)]; exact g4.2⟩
  · exact ⟨by rw [eu 712 (by decide)]; exact g4.1, by rw [ek]; exact hy⟩
theorem PQ_pc (p : PQc u w lv B t) : PCQ u w lv B t hi q q (PTSc w (szc u) (szc w) (knc u w)) := by
  obtain ⟨f, k1, o1, hB, kn, h1, h2, h3⟩ := p
  refine ⟨k1, by omega, fun _ => hB, fun gd => ⟨⟨o1, fun pl _ => ⟨?_, ?_, ?_⟩⟩, ?_⟩⟩
  · show (w.2.2.1 30 pl).toInt = _; rw [f.2.2.1 30 (by simp)]; rfl
  · show (w.2.2.1 31 pl).toInt = _; rw [f.2.2.1 31 (by simp)]; rfl
  · show (w.2.2.1 32 pl).toInt = _; rw [f.2.2.1 32 (by simp)]; rfl
  · have e : knc u w = kn := by show (F w 706 - F u 706).toNat = kn; omega
    rw [e]
    exact h3 gd.2.2.1
end
end
section
set_option maxRecDepth 100000
def TPRc (u w : MS) (lv lo o k : Nat) (wh : Int) (z h m : Nat) (L : List Nat) (x : Nat) : Prop := z ≤ h ∧ 2 * h ≤ lo + 16 ∧ (F u 706 - A u 40 lv ≤ ((m : Nat) : Int) ∧ ((m : Nat) : Int) + A w 41 lv ≤ 40 + (F u 706 - A u 40 lv)) ∧ L.length ≤ o ∧ (k = 0 ∨ (∃ n : Nat, wh = ((n : Nat) : Int) ∧ n ≤ h) ∨ (wh = -1 ∧ 1 ≤ h) ∨ (wh = -2 ∧ x ≠ 0))
def TRYc (u w : MS) (lv lo q s o k : Nat) (wh c : Int) : Prop := ∃ Hp : List Nat, CHNc w Hp c ∧ (∀ p, p ∈ Hp → szc u ≤ p ∧ p < szc w) ∧ (Hp = [] → szc w = szc u) ∧ ∀ z h m L x, TPRc u w lv lo o k wh z h m L x → SGc w (szc u) (szc w) q s (Hp.map (fun p => (p, (h, m, L, 0, x)))) z h m L 0 x (some (h, m + knc u w, L, 0, x))
def TrS (N : Nat) (S : SF_Cm_fun) (o : Nat) : Prop := ∀ (f k kg g m : Nat) (u : MS) (lv cc Q : Nat) (ps : Nat → Nat) (n pl ph rg m2 hi a c c1 q s : Nat) (wh : Int), f ≤ 120 → CMP u lv cc ps Q (o + 1) pl → F u 706 ≤ ((pl : Nat) : Int) → (1 ≤ n ∧ n ≤ 8000) → (A u 18 n = ((m : Nat) : Int) ∧ ORc u 1 (PAc u f) k m pl ph a c q q) → (A u 19 n = ((g : Nat) : Int) ∧ ((g = 0 ∧ rg = m2 ∧ s = q) ∨ (1 ≤ g ∧ RWc u 1 (XPc u f (o + 1) 3) kg g rg m2 c c1 q s))) → ph ≤ rg → rg ≤ m2 → m2 ≤ hi → hi ≤ cc → c ≤ 8000 → (1 ≤ g → c1 ≤ 8000) → s ≤ Q → RG wh → OK (fun w r => ∃ ch : Int, r = I ch ∧ RG ch ∧ PCQ u w lv (WBc ps pl ph + WBc ps rg m2 + ((if k = 0 then 0 else 4) + (if g = 0 then 0 else 5))) (ph - pl + (m2 - rg)) hi q s (TRYc u w lv pl q s o k wh ch)) (S.2.2.2.2.2.2.2.2.2.2.2.1 u (I wh) (I ((n : Nat) : Int)))
section
variable {u v w : MS} {N lv t hi lo o q r s c h m g x d a b k n f Q : Nat} {ps : Nat → Nat} {S : SF_Cm_fun} {W B wh : Int} {Y : Prop}
theorem guardsX {K : MS → Int32 → Prop} {v4 v5 : Int32} (hE : ExS N S o 3) : ∀ (k M : Nat) (n lo hi a b q r : Nat) (u : MS), f ≤ 120 → CMP u lv c ps Q o lo → F u 712 = 1 → RWc u 1 (XPc u f o 3) k n lo hi a b q r → b ≤ 8000 → hi ≤ c → r ≤ Q → k + 1 ≤ M → (∀ w M2, PCQ u w lv (WBc ps lo hi + 1) (hi - lo) hi q r (TYX u w lv lo q r o False 0) → OK K (hb_Cm_tries_181 N S (hg_Cm_tries N S M2) w v4 v5 0)) → OK K ((hg_Cm_tries N S M).2 u v4 v5 (I ((n : Nat) : Int)))
  | 0, _, _, _, _, _, _, _, _, _, _, _, _, h, _, _, _, _, _ => h.elim
  | k + 1, M, n, lo, hi, a, b, q, r, u, hf, hu, h12, h, hb, hh, hQ, hM, kk => by
    obtain ⟨M, rfl⟩ : ∃ M2, M = M2 + 1 + 1 := ⟨M - 2, by omega⟩
    show OK _ (hb_Cm_tries_181 N S (hg_Cm_tries N S (M + 1)) u v4 v5 (I ((n : Nat) : Int)))
    obtain ⟨m, c2, s, e, h⟩ := h
    have he := XP_bd f o 3 _ _ _ _ _ _ _ e
    unfold HDc at he
    have hms : m ≤ hi ∧ c2 ≤ b ∧ s ≤ r := by
      rcases h with ⟨-, -, h1, h2, h3⟩ | ⟨-, n2, -, h3⟩
      · omega
      · have := (RW_hd (XP_bd f o 3) h3).1; unfold HDc at this; omega
    have hcs := CMP_c hu
    have i1 : inb (I ((n : Nat) : Int)) 8016 = true := (I_inb (by omega) (by omega)).mpr ⟨by omega, by omega⟩
    unfold hb_Cm_tries_181
    refine k_c (y := 0) rfl ⟨by omega, by omega⟩ ⟨by decide, by decide⟩ (fun z => absurd z (by omega)) (fun _ => ?_)
    rw [ok_bnd]
    refine ok_mono (hE f u lv c Q ps n lo m a c2 q s 0 hf hu e (by clear h; omega) (by clear h; omega) (by clear h; omega) (by omega)) (fun v _ p1 => ?_)
    refine put_1 (x := 22) p1.1.2.1.1 ⟨by decide, by decide⟩ (fun w1 e1 => ?_)
    have p2 := PC_tail (hi := m) (W := WBc ps lo m + 1) (la := False) (d2 := 0) p1 e1 (by omega) (Nat.le_refl _) (by simp) (fun z => absurd z (by decide)) (fun h m L g x p gd l15 hm hh hw => SG_hold (by omega) (by omega) hm (hw 0 (by simp)) (p.2.2.2.2.1.mpr h12) (by omega))
    rw [i1, ck_t, tnI (n := n) rfl (by omega), I_A (k := 21), p2.1.1.A (j := 21) (by simp)]
    rcases h with ⟨k0, h0, rfl, rfl, rfl⟩ | ⟨-, n2, h2, h3⟩
    · rw [h0]
      show OK _ (hb_Cm_tries_181 N S (hg_Cm_tries N S M) w1 v4 v5 0)
      exact kk w1 M p2
    · rw [h2]
      have g1 := (RW_hd (XP_bd f o 3) h3).1
      unfold HDc at g1
      have hw : CMP w1 lv c ps Q o (m + 1) := CMP_k hu p2.1 (by have := p2.2.1.2; have := hu.2.2.2.2; omega) (Nat.le_refl _)
      refine guardsX hE k (M + 1) n2 (m + 1) hi c2 b s r w1 hf hw (by rw [p2.1.2.2.2.2.2.1.1]; exact h12) (RW_k (XP_k (Nat.le_refl _) (Nat.le_refl _)) (XP_bd f o 3) h3 (KN_m p2.1.1)) hb hh hQ (by omega) (fun w M2 p3 => kk w M2 ?_)
      have wb := WB_2 hcs.1 (lo := lo) (m := m) (lo2 := m + 1) (hi := hi) (by omega) (by omega) (by omega) hh
      exact PC_two hu.1 p2 p3 (by omega) (by omega) (by omega) (hd := by omega) (W := WBc ps lo hi + 1) (t := hi - lo) (by omega) (by omega)
theorem patsX {K : MS → Int32 → Prop} {v2 v3 v4 : Int32} (hP : ∀ (u : MS) (lv c : Nat) (ps : Nat → Nat) (n lo hi a b q r : Nat), CVI u lv → CSX u c ps → PAc u f n lo hi a b q r → b ≤ 8000 → hi ≤ c → F u 706 + ((hi - lo : Nat) : Int) ≤ 4000 → OK (fun w _ => PQc u w lv (WBc ps lo hi) (hi - lo)) (hr_Cm_pattern N u (I ((n : Nat) : Int)))) : ∀ (k M : Nat) (n lo hi a b q r : Nat) (u : MS), CVI u lv → CSX u c ps → RWc u 1 (PAc u f) k n lo hi a b q r → b ≤ 8000 → hi ≤ c → F u 706 + ((hi - lo : Nat) : Int) ≤ 4000 → k + 1 ≤ M → (∀ w M2, M ≤ M2 + k + 1 → PQc u w lv (WBc ps lo hi) (hi - lo) → OK K (hb_Cm_tries_71 N S (hg_Cm_tries N S M2) w v2 v3 v4 0)) → OK K ((hg_Cm_tries N S M).1 u v2 v3 v4 (I ((n : Nat) : Int)))
  | 0, _, _, _, _, _, _, _, _, _, _, _, h, _, _, _, _, _ => h.elim
  | k + 1, M, n, lo, hi, a, b, q, r, u, hv, hc, h, hb, hh, ht, hM, kk => by
    obtain ⟨M, rfl⟩ : ∃ M2, M = M2 + 1 + 1 := ⟨M - 2, by omega⟩
    show OK _ (hb_Cm_tries_71 N S (hg_Cm_tries N S (M + 1)) u v2 v3 v4 (I ((n : Nat) : Int)))
    obtain ⟨m, c2, s, e, h⟩ := h
    have he := PA_bd f _ _ _ _ _ _ _ e
    unfold HDc at he
    have hms : m ≤ hi ∧ c2 ≤ b := by
      rcases h with ⟨-, -, h1, h2, -⟩ | ⟨-, n2, -, h3⟩
      · omega
      · have := (RW_hd (PA_bd f) h3).1; unfold HDc at this; omega
    have i1 : inb (I ((n : Nat) : Int)) 8016 = true := (I_inb (by omega) (by omega)).mpr ⟨by omega, by omega⟩
    unfold hb_Cm_tries_71
    refine k_c (y := 0) rfl ⟨by omega, by omega⟩ ⟨by decide, by decide⟩ (fun z => absurd z (by omega)) (fun _ => ?_)
    rw [ok_bnd]
    refine ok_mono (hP u lv c ps n lo m a c2 q s hv hc e (by clear h; omega) (by clear h; omega) (by clear h; omega)) (fun v _ p1 => ?_)
    rw [i1, ck_t, tnI (n := n) rfl (by omega), I_A (k := 21), p1.2.1.1.A (j := 21) (by simp)]
    rcases h with ⟨k0, h0, rfl, rfl, rfl⟩ | ⟨-, n2, h2, h3⟩
    · rw [h0]
      subst k0
      show OK _ (hb_Cm_tries_71 N S (hg_Cm_tries N S M) v v2 v3 v4 0)
      exact kk v M (by omega) p1
    · rw [h2]
      have g1 := (RW_hd (PA_bd f) h3).1
      unfold HDc at g1
      have tp := PQ_top p1
      have wb := WB_2 hc (lo := lo) (m := m) (lo2 := m + 1) (hi := hi) (by omega) (by omega) (by omega) hh
      exact patsX hP k (M + 1) n2 (m + 1) hi c2 b s r v p1.2.1.2.1 (CSX_k hc p1.2.1.1) (RW_k (PA_k (Nat.le_refl _)) (PA_bd f) h3 (KN_m p1.2.1.1)) hb hh (by omega) (by omega) (fun w M2 h5 p2 => kk w M2 (by omega) (PQ_w (PQ_tr hv.1.1 p1 p2) (by omega) (by omega)))
theorem pattern_300 (hN : 10000 ≤ N) (hf : f ≤ 120) (u : MS) (lv c : Nat) (ps : Nat → Nat) (n lo hi a b q r : Nat) (h1 : CVI u lv) (h2 : CSX u c ps) (h3 : PAc u f n lo hi a b q r) (h4 : b ≤ 8000) (h5 : hi ≤ c) (h6 : F u 706 + ((hi - lo : Nat) : Int) ≤ 4000) : OK (fun w _ => PQc u w lv (WBc ps lo hi) (hi - lo)) (hr_Cm_pattern N u (I ((n : Nat) : Int))) := (grpA_ok hN 300 f).1 (by omega) u lv c ps n lo hi a b q r h1 h2 h3 h4 h5 h6
end
end
section
set_option maxRecDepth 100000
section
variable {u v w : MS} {N lv t hi lo o q r s c h m g x d a b k n f Q z : Nat} {ps : Nat → Nat} {S : SF_Cm_fun} {W B wh : Int} {L : List Nat} {H : List (Nat × Tyc)} {oo : Option Tyc}
theorem SG_wi {y : Int} (hy : RG y) (hk : k ≠ 22 ∧ k ≠ 442 ∧ k ≠ 449) (p : SGc w a b q r H z h m L g x oo) : SGc (wi w k y) a b q r H z h m L g x oo := SG_k p (fun _ _ _ _ => rfl) ⟨by rw [F_wi hy.1 hy.2, if_neg (by omega)], by rw [F_wi hy.1 hy.2, if_neg (by omega)], by rw [F_wi hy.1 hy.2, if_neg (by omega)]; omega, fun _ => rfl, fun _ _ _ => ⟨rfl, rfl, rfl⟩⟩
theorem triesC_ok (hE : ExS N S (o + 1) 3) (hN : 30000 ≤ N) {S2 : SF_Cm_fun} (h2 : S2.2.2.2.2.2.2.2.2.2.2.2.1 = hm_Cm_tries N S) : TrS N S2 o := by
  intro f k kg g m u lv cc Q ps n pl ph rg m2 hi a c c1 q s wh hf hu h706 hn h18 h19 hpr hrm hmh hhc hc8 hc18 hsQ hwh
  rw [h2]
  have hcs := CMP_c hu
  have cu := hu.1
  have gp := OR_hd (PA_bd f) h18.2
  have i1 : inb (I ((n : Nat) : Int)) 8016 = true := (I_inb (by omega) (by omega)).mpr ⟨by omega, by omega⟩
  have hqs : q ≤ s ∧ (1 ≤ g → kg ≤ 8000) := by
    rcases h19.2 with ⟨z1, z2, z3⟩ | ⟨z1, z2⟩
    · exact ⟨by omega, fun z => by omega⟩
    · have := (RW_hd (XP_bd f (o + 1) 3) z2).1
      have h5 := RW_cnt (XP_bd f (o + 1) 3) z2
      unfold HDc at this
      exact ⟨by omega, fun z => by have := hc18 z; omega⟩
  have e111 : ∀ (v : MS) (ch0 : Int) (M : Nat), PCQ u v lv (WBc ps pl ph + (if k = 0 then 0 else 4)) (ph - pl) hi q q (TRYc u v lv pl q q o k wh ch0) → RG ch0 → 8001 ≤ M → OK (fun w r => ∃ ch : Int, r = I ch ∧ RG ch ∧ PCQ u w lv (WBc ps pl ph + WBc ps rg m2 + ((if k = 0 then 0 else 4) + (if g = 0 then 0 else 5))) (ph - pl + (m2 - rg)) hi q s (TRYc u w lv pl q s o k wh ch)) (hb_Cm_tries_111 N S (hg_Cm_tries N S M) v (I ((n : Nat) : Int)) (I (F u 706)) (I ch0)) := fun v ch0 M pv hch hM => by
    unfold hb_Cm_tries_111
    rw [i1, ck_t, tnI (n := n) rfl (by omega), I_A (k := 19), pv.1.1.A (j := 19) (by simp), h19.1]
    rcases h19.2 with ⟨z1, z2, z3⟩ | ⟨hg1, hrw⟩
    · subst z1 z2 z3
      refine k_c (y := 0) rfl ⟨by decide, by decide⟩ ⟨by decide, by decide⟩ (fun _ => ok_some.mpr ⟨ch0, rfl, hch, ?_⟩) (fun z => absurd rfl z)
      have : WBc ps rg rg = 0 := by unfold WBc; simp
      exact PC_w pv (by rw [this]; simp) (by omega) (Nat.le_refl _) (fun _ y => y)
    · have cv := pv.1.2.1
      have kv := pv.1
      have pv6 := pv.2.1
      have hu6 := hu.2.2.2.2
      have gr := (RW_hd (XP_bd f (o + 1) 3) hrw).1
      unfold HDc at gr
      have hkg := hqs.2 hg1
      have hc1 := hc18 hg1
      refine k_c (y := 0) rfl ⟨by omega, by omega⟩ ⟨by decide, by decide⟩ (fun z => absurd z (by omega)) (fun _ => ok_lt.mpr ?_)
      rw [lit1q, wi_e]
      have cv1 : CVI (wi v 712 1) lv := CVI_flag (Or.inl rfl) cv (Or.inr rfl)
      have ev : ∀ j, j ≠ 712 → F (wi v 712 1) j = F v j := fun j hj => by rw [F_wi (by decide) (by decide), if_neg hj]
      have ev12 : F (wi v 712 1) 712 = 1 := by rw [F_wi (by decide) (by decide), if_pos rfl]
      have ef1 : KMF v (wi v 712 1) := FR.wi FR.rf (by simp)
      have eA1 : ∀ r j, A (wi v 712 1) r j = A v r j := fun _ _ => rfl
      have flag : ∀ w W t Y, PCQ (wi v 712 1) w lv W t hi q s Y → PCQ v (wi w 712 (F v 712)) lv W t hi q s (szc (wi v 712 1) = szc v ∧ Y) := fun w W t Y p => PC_flag (Or.inl rfl) cv (Or.inr rfl) p
      generalize wi v 712 1 = v1 at cv1 ev ev12 ef1 eA1 flag ⊢
      refine put_1 (x := 21) cv1.1 ⟨by decide, by decide⟩ (fun w1 e1 => ?_)
      have e16 : F w1 706 = F v 706 := (congrArg _ (e1.1.1 706 (by simp)) : F w1 706 = F v1 706).trans (ev 706 (by decide))
      rw [I_F (k := 706), e16, I_sub]
      refine put_B (x := F v 706 - F u 706) cv1.1.1 e1 ⟨by omega, by omega⟩ (fun w2 e2 => ?_)
      refine hook_B (x := ch0) cv1.1.1 e2 hch (fun v2 e3 => ?_)
      have k2 := EMc.km cv1 e3
      have kf2 : KMF u v2 := KMF.tr kv.1 (KMF.tr ef1 k2.1)
      have e26 : F v2 706 = F v 706 := (congrArg _ (e3.1.1 706 (by simp)) : F v2 706 = F v1 706).trans (ev 706 (by decide))
      rw [ck_t, I_A (k := 19), kf2.A (j := 19) (by simp), h19.1]
      have hv2 : CMP v2 lv cc ps Q (o + 1) rg := ⟨k2.2.1, CMX_k hu.2.1 kf2, by rw [k2.2.2.2.2.2.1.2, ev 713 (by decide), kv.2.2.2.2.2.1.2]; exact hu.2.2.1, by have := hu.2.2.2.1; omega, by omega⟩
      refine guardsX hE kg M g rg m2 c c1 q s v2 hf hv2 (by rw [k2.2.2.2.2.2.1.1]; exact ev12) (RW_k (XP_k (Nat.le_refl _) (Nat.le_refl _)) (XP_bd f (o + 1) 3) hrw (KN_m kf2)) hc1 (by omega) hsQ (by omega) (fun w M2 p3 => ?_)
      unfold hb_Cm_tries_181
      refine ok_br.mpr ⟨fun _ => ?_, fun z => absurd z (by decide)⟩
      refine put_1 (x := 23) p3.1.2.1.1 ⟨by decide, by decide⟩ (fun w1 e4 => ?_)
      have v12 := cv.2.2.2.1.1
      rw [I_F (k := 712)]
      refine ok_ck.mpr ⟨by rcases v12 with z | z <;> rw [z] <;> decide, ok_lt.mpr (ok_some.mpr ⟨F v2 441 - 1, rfl, ⟨by have := k2.2.1.1; omega, by have := k2.2.1.1; omega⟩, ?_⟩)⟩
      rw [wi_e]
      have p3' : PCQ v2 w lv (WBc ps rg m2 + 1) (m2 - rg) hi q s (TYX v2 w lv rg q s (o + 1) False 0) := PC_w p3 (Int.le_refl _) (Nat.le_refl _) hmh (fun _ y => y)
      have c3 := p3.1.2.1
      have q1 := PC_seq (Y := (szc v2 = szc v1 + 3 ∧ (A w 23 (szc v1) = 21 ∧ A w 23 (szc v1 + 1) = F v 706 - F u 706 ∧ A w 23 (szc v1 + 2) = ch0)) ∧ TYX v2 w lv rg q s (o + 1) False 0) (PC_em (hi := hi) (q := q) cv1 e3) p3' (Nat.le_refl _) (Nat.le_refl _) hqs.1 (fun gd o1 o2 y1 y2 => by
        have cc2 := k2.2.1.1
        have s3 : szc v2 = szc v1 + 3 := y1.1
        have lt : ∀ j, j < 3 → A w 23 (szc v1 + j) = A v2 23 (szc v1 + j) := fun j hj => o2.1 _ (by
          have h5 : (F v2 441).toNat = szc v1 + 3 := s3
          omega)
        exact ⟨⟨s3, (lt 0 (by omega)).trans (y1.2 0 (by simp)), (lt 1 (by omega)).trans (y1.2 1 (by simp)), (lt 2 (by omega)).trans (y1.2 2 (by simp))⟩, y2⟩)
      have q2 := PC_seq (Y := (szc v2 = szc v1 + 3 ∧ (A w1 23 (szc v1) = 21 ∧ A w1 23 (szc v1 + 1) = F v 706 - F u 706 ∧ A w1 23 (szc v1 + 2) = ch0)) ∧ (szc w1 = szc w + 1 ∧ A w1 23 (szc w) = 23 ∧ OLQ w w1 s s) ∧ TYX v2 w lv rg q s (o + 1) False 0) q1 (PC_em (hi := hi) (q := s) c3 e4) (Nat.le_refl _) hqs.1 (Nat.le_refl _) (fun gd o1 o2 y1 y2 => by
        have s3 := y1.1.1
        have le := szc_le k2.2.1 p3.1
        have cc3 := c3.1
        have lt : ∀ j, j < 3 → A w1 23 (szc v1 + j) = A w 23 (szc v1 + j) := fun j hj => o2.1 _ (by
          have h5 : szc v1 + 3 ≤ (F w 441).toNat := by rw [← s3]; exact le
          omega)
        exact ⟨⟨s3, (lt 0 (by omega)).trans y1.1.2.1, (lt 1 (by omega)).trans y1.1.2.2.1, (lt 2 (by omega)).trans y1.1.2.2.2⟩, ⟨y2.1, y2.2 0 (by simp), o2⟩, y1.2⟩)
      have q3 := flag _ _ _ _ q2
      have frv := FRG1 v 712
      have ew : ∀ j, j ≠ 712 → F (wi w1 712 (F v 712)) j = F w1 j := fun j hj => by rw [F_wi frv.1 frv.2, if_neg hj]
      have eAw : ∀ r j, A (wi w1 712 (F v 712)) r j = A w1 r j := fun _ _ => rfl
      have ef4 : F w1 706 = F w 706 := congrArg _ (e4.1.1 706 (by simp))
      have esz : szc (wi w1 712 (F v 712)) = szc w1 := by show (F (wi w1 712 (F v 712)) 441).toNat = _; rw [ew 441 (by decide)]
      have q4 := PC_seq (Y := TRYc u (wi w1 712 (F v 712)) lv pl q s o k wh (F v2 441 - 1)) pv q3 (Nat.le_refl _) (Nat.le_refl _) hqs.1 (fun gd o1 o2 y1 y2 => ?_)
      · exact PC_w q4 (by rw [if_neg (show ¬ g = 0 by omega)]; simp; omega) (by omega) (Nat.le_refl _) (fun _ z => z)
      · obtain ⟨Hp, ch1, hp1, -, ty⟩ := y1
        obtain ⟨es1, ⟨s3, w0, w1w, w2w⟩, ⟨s4, w3, ol4⟩, tg⟩ := y2
        rw [es1] at s3 w0 w1w w2w
        have le2 := szc_le k2.2.1 p3.1
        have c2f := k2.2.1.1
        have l15 := gd.2.2.2.1
        have c441 : F v2 441 - 1 = ((szc v + 2 : Nat) : Int) := by
          have h5 : (F v2 441).toNat = szc v + 3 := s3
          omega
        have vlt : szc v + 3 ≤ szc w := by rw [← s3]; exact le2
        have v24 : szc w < 24000 := by
          have h5 := gd.2.2.1
          have h6 : szc (wi w1 712 (F v 712)) = szc w + 1 := esz.trans s4
          have h7 : (F (wi w1 712 (F v 712)) 441).toNat = szc w + 1 := h6
          omega
        have kvw : KMc v (wi w1 712 (F v 712)) lv := q3.1
        have old : ∀ p, p < szc v → A (wi w1 712 (F v 712)) 23 p = A v 23 p := fun p hp => o2.1 p (by have : p < (F v 441).toNat := hp; have := cv.1; omega)
        have v1p : 1 ≤ szc v := by have := cv.1; show 1 ≤ (F v 441).toNat; omega
        have uv := szc_le cu kv
        refine ⟨(szc v + 2) :: Hp, ⟨c441, ⟨by omega, by omega⟩, fun p hp => by have := (hp1 p hp).2; omega, ?_⟩, fun p hp => ?_, fun z => absurd z (by simp), fun z h m L x tp => ?_⟩
        · rw [eAw, w2w]
          exact CHNc_k (fun p hp => old p (hp1 p hp).2) ch1
        · simp only [List.mem_cons] at hp
          rcases hp with rfl | hp
          · exact ⟨by omega, by rw [esz, s4]; omega⟩
          · have := hp1 p hp
            exact ⟨this.1, by rw [esz, s4]; omega⟩
        · obtain ⟨t1, t2, ⟨t3, t4⟩, t5, t6⟩ := tp
          have e41 := kvw.2.2.2.2.2.2.2.2
          have e40 := kv.2.2.2.2.2.2.1 lv (Nat.le_refl _)
          have i1 := ty z h m L x ⟨t1, t2, ⟨t3, by omega⟩, t5, t6⟩
          have j1 := SG_kw cv i1 kvw.1 o2 (Nat.le_refl _) (Or.inl (Nat.le_refl _))
          have kn : ((knc u v : Nat) : Int) = F v 706 - F u 706 := by show (((F v 706 - F u 706).toNat : Nat) : Int) = _; omega
          have e40v : A v2 40 lv = A v 40 lv := (k2.2.2.2.2.2.2.1 lv (Nat.le_refl _)).trans (eA1 40 lv)
          have e41w : A w 41 lv ≤ A (wi w1 712 (F v 712)) 41 lv := (EMc.km c3 e4).2.2.2.2.2.2.2.2
          obtain ⟨n1, i2⟩ := tg h (m + knc u v) L (szc v) x ⟨by omega, ⟨by rw [e26, e40v, e40]; omega, by rw [e26, e40v, e40]; omega⟩, by omega, fun z => z.elim, ⟨fun _ => by rw [k2.2.2.2.2.2.1.1]; exact ev12, fun _ => by omega⟩, fun z => by omega⟩
          have n2 : F w 706 = F v 706 := (n1 (by omega)).trans e26
          rw [s3, show knc v2 w = 0 by show (F w 706 - F v2 706).toNat = 0; omega, Nat.add_zero, Nat.add_zero] at i2
          have i3 := SG_wi (y := F v 712) (k := 712) frv ⟨by decide, by decide, by decide⟩ (SG_kw c3 i2 (EMc.km c3 e4).1 ol4 (Nat.le_refl _) (Or.inl (Nat.le_refl _)))
          have cfw := kvw.2.1
          have hm40 : m + knc u v ≤ 40 := by
            have c8 := cfw.2.2.2.2.2.2.2.2
            have e706 : F (wi w1 712 (F v 712)) 706 = F v 706 := by rw [ew 706 (by decide), ef4, n2]
            have e40f := kvw.2.2.2.2.2.2.1 lv (Nat.le_refl _)
            omega
          have j2 := SG_grd (z := z) (n := knc u v) t1 (by omega) hm40 w0 (by rw [w1w]; omega) (by omega) v1p i3 w3
          rw [show m + knc u v - knc u v = m by omega, ← s4, ← esz] at j2
          have j := SG_seq j1 j2 (by omega) (fun hg => absurd rfl hg)
          have ekf : knc u (wi w1 712 (F v 712)) = knc u v := by show (F (wi w1 712 (F v 712)) 706 - F u 706).toNat = _; rw [ew 706 (by decide), ef4, n2]
          rw [ekf]
          refine SG_pm (fun p t => ?_) j
          simp only [List.mem_append, List.map_cons, List.mem_cons, List.not_mem_nil, or_false]
          exact Or.comm
  unfold hm_Cm_tries hb_Cm_tries_0
  rw [i1, ck_t, tnI (n := n) rfl (by omega), I_A (k := 18), h18.1, I_F (k := 706)]
  rcases h18.2 with ⟨z1, z2, z3, z4, -⟩ | ⟨hk1, hrw⟩
  · subst z1 z2 z3
    refine k_c (y := 0) rfl ⟨by decide, by decide⟩ ⟨by decide, by decide⟩ (fun _ => ?_) (fun z => absurd rfl z)
    refine e111 u 0 N (PC_w (PC_rf (hi := hi) (q := q) cu) ?_ (by omega) (Nat.le_refl _) (fun _ _ => ⟨[], rfl, fun p hp => absurd hp (by simp), fun _ => rfl, fun z h m L x tp => ?_⟩)) ⟨by decide, by decide⟩ (by omega)
    · unfold WBc; simp
    · rw [show knc u u = 0 by show (F u 706 - F u 706).toNat = 0; omega]
      exact SG_nl
  · have gr := (RW_hd (PA_bd f) hrw).1
    have hk8 := RW_cnt (PA_bd f) hrw
    unfold HDc at gr
    refine k_c (y := 0) rfl ⟨by omega, by omega⟩ ⟨by decide, by decide⟩ (fun z => absurd z (by omega)) (fun _ => ?_)
    refine put_1 (x := 19) cu.1 ⟨by decide, by decide⟩ (fun w1 e1 => ?_)
    refine put_B (x := wh) cu.1.1 e1 hwh (fun w2 e2 => ?_)
    refine hook_B (x := 0) cu.1.1 e2 ⟨by decide, by decide⟩ (fun v0 e3 => ?_)
    have k0 := EMc.km cu e3
    have cv0 := k0.2.1
    have e57 : ∀ y : Int, (y = 0 ∨ y = 1) → OK (fun w r => ∃ ch : Int, r = I ch ∧ RG ch ∧ PCQ u w lv (WBc ps pl ph + WBc ps rg m2 + ((if k = 0 then 0 else 4) + (if g = 0 then 0 else 5))) (ph - pl + (m2 - rg)) hi q s (TRYc u w lv pl q s o k wh ch)) (hb_Cm_tries_57 N S (hg_Cm_tries N S N) v0 (I ((n : Nat) : Int)) (I (F u 706)) (I (F v0 441 - 1)) (I y)) := fun y hy => by
      unfold hb_Cm_tries_57
      refine ok_ck.mpr ⟨by rcases hy with rfl | rfl <;> decide, ok_lt.mpr ?_⟩
      rw [wi_e, i1, ck_t, tnI (n := n) rfl (by omega)]
      have hry : RG y := ⟨by omega, by omega⟩
      have cv1 : CVI (wi v0 713 y) lv := CVI_flag (Or.inr rfl) cv0 hy
      have ef1 : KMF v0 (wi v0 713 y) := FR.wi FR.rf (by simp)
      have ev : ∀ j, j ≠ 713 → F (wi v0 713 y) j = F v0 j := fun j hj => by rw [F_wi hry.1 hry.2, if_neg hj]
      have flag : ∀ w W t Y, PCQ (wi v0 713 y) w lv W t hi q q Y → PCQ v0 (wi w 713 (F v0 713)) lv W t hi q q (szc (wi v0 713 y) = szc v0 ∧ Y) := fun w W t Y p => PC_flag (Or.inr rfl) cv0 hy p
      generalize wi v0 713 y = v1 at cv1 ef1 ev flag ⊢
      have kf1 : KMF u v1 := KMF.tr k0.1 ef1
      have e06 : F v0 706 = F u 706 := congrArg _ (e3.1.1 706 (by simp))
      rw [I_A (k := 18), kf1.A (j := 18) (by simp), h18.1]
      refine patsX (fun u lv c ps n lo hi a b q r => pattern_300 (by omega) hf u lv c ps n lo hi a b q r) k N m pl ph a c q q v1 cv1 (CSX_k hcs.1 kf1) (RW_k (PA_k (Nat.le_refl _)) (PA_bd f) hrw (KN_m kf1)) hc8 (by omega) (by rw [ev 706 (by decide), e06]; omega) (by omega) (fun w M2 hM2 pq => ?_)
      unfold hb_Cm_tries_71
      refine ok_br.mpr ⟨fun _ => ok_lt.mpr ?_, fun z => absurd z (by decide)⟩
      have f713 : F v0 713 = 0 := by rw [k0.2.2.2.2.2.1.2]; exact hu.2.2.1
      have q1 := flag _ _ _ _ (PQ_pc (hi := hi) (q := q) pq)
      rw [f713] at q1
      rw [lit0q, wi_e]
      have c1w := q1.1.2.1
      have esz : szc (wi w 713 0) = szc w := by show (F (wi w 713 0) 441).toNat = _; rw [F_wi (by decide) (by decide), if_neg (by decide)]
      have e6w : F (wi w 713 0) 706 = F w 706 := by rw [F_wi (by decide) (by decide), if_neg (by decide)]
      have eAw : ∀ r j, A (wi w 713 0) r j = A w r j := fun _ _ => rfl
      generalize wi w 713 0 = w' at q1 c1w esz e6w eAw ⊢
      refine put_1 (x := 8) c1w.1 ⟨by decide, by decide⟩ (fun v2 e4 => ?_)
      have c0r := cv0.1
      refine e111 v2 (F v0 441 - 1) M2 ?_ ⟨by omega, by omega⟩ (by omega)
      have p1 := PC_seq (Y := (szc v0 = szc u + 3 ∧ A w' 23 (szc u) = 19 ∧ A w' 23 (szc u + 1) = wh ∧ A w' 23 (szc u + 2) = 0) ∧ PTSc w' (szc u + 3) (szc w') (knc u w')) (PC_em (hi := hi) (q := q) cu e3) q1 (Nat.le_refl _) (Nat.le_refl _) (Nat.le_refl _) (fun gd o1 o2 y1 y2 => by
        have s3 : szc v0 = szc u + 3 := y1.1
        have lt : ∀ j, j < 3 → A w' 23 (szc u + j) = A v0 23 (szc u + j) := fun j hj => o2.1 _ (by
          have h5 : (F v0 441).toNat = szc u + 3 := s3
          omega)
        refine ⟨⟨s3, (lt 0 (by omega)).trans (y1.2 0 (by simp)), (lt 1 (by omega)).trans (y1.2 1 (by simp)), (lt 2 (by omega)).trans (y1.2 2 (by simp))⟩, ?_⟩
        obtain ⟨y3, y4⟩ := y2
        rw [y3, s3, ← esz] at y4
        have : knc v1 w = knc u w' := by show (F w 706 - F v1 706).toNat = (F w' 706 - F u 706).toNat; rw [e6w, ev 706 (by decide), e06]
        rw [this] at y4
        exact PTS_k y4 (fun j _ _ => eAw 23 j))
      have p2 := PC_seq (Y := TRYc u v2 lv pl q q o k wh (F v0 441 - 1)) p1 (PC_em (hi := hi) (q := q) c1w e4) (Nat.le_refl _) (Nat.le_refl _) (Nat.le_refl _) (fun gd o1 o2 y1 y2 => ?_)
      · exact PC_w p2 (by rw [if_neg (show ¬ k = 0 by omega)]; simp; omega) (by omega) (Nat.le_refl _) (fun _ z => z)
      · obtain ⟨⟨s3, w0, w1w, w2w⟩, pt⟩ := y1
        have s4 : szc v2 = szc w' + 1 := y2.1
        have w3 : A v2 23 (szc w') = 8 := y2.2 0 (by simp)
        have ptl := pt.1
        have cu1 := cu.1
        have v24 : szc w' < 24000 := by
          have h5 := gd.2.2.1
          have h7 : (F v2 441).toNat = szc w' + 1 := s4
          omega
        have c441 : F v0 441 - 1 = ((szc u + 2 : Nat) : Int) := by
          have h5 : (F v0 441).toNat = szc u + 3 := s3
          omega
        have lt : ∀ j, j < szc w' → A v2 23 j = A w' 23 j := fun j hj => o2.1 _ (by
          have h5 : j < (F w' 441).toNat := hj
          omega)
        have u1 : 1 ≤ szc u := by show 1 ≤ (F u 441).toNat; omega
        have e6v : F v2 706 = F w' 706 := congrArg _ (e4.1.1 706 (by simp))
        have ekv : knc u v2 = knc u w' := by show (F v2 706 - F u 706).toNat = _; rw [e6v]
        have kuv := KMc.tr p1.1 (EMc.km c1w e4)
        refine ⟨[szc u + 2], ⟨c441, ⟨by omega, by omega⟩, fun p hp => absurd hp (by simp), ?_⟩, fun p hp => ?_, fun z => absurd z (by simp), fun z h m L x tp => ?_⟩
        · show A v2 23 (szc u + 2) = 0
          rw [lt _ (by omega)]; exact w2w
        · simp only [List.mem_singleton] at hp
          rw [hp, s4]
          exact ⟨by omega, by omega⟩
        · obtain ⟨t1, t2, ⟨t3, t4⟩, t5, t6⟩ := tp
          have l15 := gd.2.2.2.1
          have c8 := kuv.2.1.2.2.2.2.2.2.2.2
          have e40 := kuv.2.2.2.2.2.2.1 lv (Nat.le_refl _)
          have h61 := p1.2.1.1
          have kn : ((knc u w' : Nat) : Int) = F w' 706 - F u 706 := by show (((F w' 706 - F u 706).toNat : Nat) : Int) = _; omega
          rw [ekv, s4]
          refine SG_fit (e := szc w') (b2 := knc u w') t1 (by omega) (by omega) (by rw [lt _ (by omega)]; exact w0) rfl ?_ (PTS_k pt (fun j _ hj => lt j hj)) w3 v24
          rw [lt _ (by omega), w1w]
          rcases t6 with z | z
          · omega
          · exact z
    rw [lit0q]
    exact ok_br.mpr ⟨fun _ => e57 0 (Or.inl rfl), fun _ => e57 1 (Or.inr rfl)⟩
end
end
section
set_option maxRecDepth 100000
def NMc (u w : MS) (lv m : Nat) : Prop := F u 706 - A u 40 lv ≤ ((m : Nat) : Int) ∧ ((m : Nat) : Int) + A w 41 lv ≤ 40 + (F u 706 - A u 40 lv)
def ClS (N : Nat) (S : SF_Cm_fun) (o : Nat) : Prop := ∀ (f k : Nat) (u : MS) (lv cc Q : Nat) (ps : Nat → Nat) (n pl ph r0 hi a b q r : Nat) (line : Int), f ≤ 120 → CMP u lv cc ps Q (o + 1) pl → F u 712 = 0 → PRTc u (PAc u f) (XPc u f (o + 2) 3) (XPc u f (o + 1) 3) k n pl ph r0 hi a b q r → ph ≤ r0 → b ≤ 8000 → hi ≤ cc → r ≤ Q → k ≤ 6 → RG line → OK (fun w _ => PCQ u w lv (WBc ps pl hi - 12 * ((r0 - ph : Nat) : Int) - 4) 0 hi q r (F w 706 = F u 706 ∧ szc u < szc w ∧ ∀ m, NMc u w lv m → SGc w (szc u) (szc w) q r [] 0 k m [] 0 0 (some (k, m, [], 0, 0)))) (S.2.2.2.2.2.2.2.2.2.2.2.2 u (I ((n : Nat) : Int)) (I ((k : Nat) : Int)) (I line))
section
variable {u v w : MS} {N lv t hi lo o q r s c h m g x d a b k n f Q z : Nat} {ps : Nat → Nat} {S : SF_Cm_fun} {W B wh : Int} {L : List Nat} {H : List (Nat × Tyc)} {oo : Option Tyc} {Y Y1 : Prop}
theorem PC_706 {m0 : Int} (p : PCQ u v lv W t hi q r Y) (h1 : m0 = F u 706) (hc : A u 40 lv ≤ m0) : PCQ u (wi v 706 m0) lv W 0 hi q r Y := by
  have cv := p.1.2.1
  have hr : RG m0 := by rw [h1]; exact FRG1 u 706
  have e40 := p.1.2.2.2.2.2.2.1 lv (Nat.le_refl _)
  have h6 := p.2.1
  have km := top_km (m := m0) cv (by omega) (by omega)
  have ev : ∀ j, j ≠ 706 → F (wi v 706 m0) j = F v j := fun j hj => by rw [F_wi hr.1 hr.2, if_neg hj]
  have e6 : F (wi v 706 m0) 706 = m0 := by rw [F_wi hr.1 hr.2, if_pos rfl]
  refine ⟨KMc.tr p.1 km, by rw [e6]; omega, fun z => by rw [ev 711 (by decide)] at z; rw [ev 441 (by decide)]; exact p.2.2.1 z, fun gd => ?_⟩
  have gv : GDc v hi r := by
    unfold GDc at gd ⊢
    rw [ev 714 (by decide), ev 711 (by decide), ev 441 (by decide)] at gd
    exact gd
  obtain ⟨o1, y⟩ := p.2.2.2 gv
  exact ⟨⟨o1.1, o1.2⟩, y⟩
theorem clauseC_ok (hT : TrS N S o) (hB : BoS N S (o + 2)) (hN : 30000 ≤ N) {S2 : SF_Cm_fun} (h2 : S2.2.2.2.2.2.2.2.2.2.2.2.2 = hm_Cm_clause N S) : ClS N S2 o := by
  intro f k u lv cc Q ps n pl ph r0 hi a b q r line hf hu h12 hX hpr hb hh hQ hk hline
  rw [h2]
  have hcs := CMP_c hu
  have cu := hu.1
  obtain ⟨hn, -, -, m, c, g, m2, c1, s, kb, mb, c2, h18, h19, h20, hc2n⟩ := hX
  have gp := OR_hd (PA_bd f) h18.2
  have gb := (RW_hd (XP_bd f (o + 2) 3) h20.2).1
  unfold HDc at gb
  have i1 : inb (I ((n : Nat) : Int)) 8016 = true := (I_inb (by omega) (by omega)).mpr ⟨by omega, by omega⟩
  obtain ⟨rg, kg, h19b, hg1, hg2, hg3, hqs⟩ : ∃ rg kg : Nat, (A u 19 n = ((g : Nat) : Int) ∧ ((g = 0 ∧ rg = m2 ∧ s = q) ∨ (1 ≤ g ∧ RWc u 1 (XPc u f (o + 1) 3) kg g rg m2 c c1 q s))) ∧ r0 ≤ rg ∧ rg ≤ m2 ∧ (g ≠ 0 → r0 + 1 ≤ rg) ∧ (q ≤ s ∧ c ≤ c1) := by
    rcases h19.2 with ⟨z1, z2, z3, z4⟩ | ⟨z1, kg, z2⟩
    · exact ⟨m2, 0, ⟨h19.1, Or.inl ⟨z1, rfl, z4⟩⟩, by omega, by omega, fun z => absurd z1 z, by omega⟩
    · have gr := (RW_hd (XP_bd f (o + 1) 3) z2).1
      unfold HDc at gr
      exact ⟨r0 + 1, kg, ⟨h19.1, Or.inr ⟨z1, z2⟩⟩, by omega, by omega, fun _ => by omega, by omega⟩
  have wb : WBc ps pl ph + WBc ps rg m2 + WBc ps (m2 + 1) hi + 12 * ((rg - ph : Nat) : Int) + 12 ≤ WBc ps pl hi := by
    have w1 := WB_2 hcs.1 (lo := pl) (m := ph) (lo2 := rg) (hi := m2) (by omega) (by omega) (by omega) (by omega)
    have w2 := WB_2 hcs.1 (lo := pl) (m := m2) (lo2 := m2 + 1) (hi := hi) (by omega) (by omega) (by omega) (by omega)
    omega
  unfold hm_Cm_clause hb_Cm_clause_0
  rw [ok_bnd]
  refine ok_mono (hT f k kg g m u lv cc Q ps n pl ph rg m2 m2 a c c1 q s ((k : Nat) : Int) hf hu hu.2.2.2.2 (by omega) h18 h19b (by omega) hg2 (Nat.le_refl _) (by omega) (by omega) (fun _ => by omega) (by omega) ⟨by omega, by omega⟩) (fun v r1 hv => ?_)
  obtain ⟨ch, rfl, hch, pv⟩ := hv
  have cv := pv.1.2.1
  refine put_1 (x := 24) cv.1 ⟨by decide, by decide⟩ (fun w1 e1 => ?_)
  refine put_B (x := ((k : Nat) : Int)) cv.1.1 e1 ⟨by omega, by omega⟩ (fun w2 e2 => ?_)
  refine put_B (x := line) cv.1.1 e2 hline (fun v1 e3 => ?_)
  have k1 := EMc.km cv e3
  have kf1 := KMF.tr pv.1.1 k1.1
  have e16 : F v1 706 = F v 706 := congrArg _ (e3.1.1 706 (by simp))
  have pv6 := pv.2.1
  have hu6 := hu.2.2.2.2
  rw [i1, ck_t, tnI (n := n) rfl (by omega), I_A (k := 20), kf1.A (j := 20) (by simp), h20.1, ok_bnd]
  have hv1 : CMP v1 lv cc ps Q (o + 2) (m2 + 1) := CMP_k hu (KMc.tr pv.1 k1) (by rw [e16]; omega) (by omega)
  refine ok_mono (hB f kb v1 lv cc Q ps mb (m2 + 1) hi c1 c2 s r 1 hf hv1 (RW_k (XP_k (Nat.le_refl _) (Nat.le_refl _)) (XP_bd f (o + 2) 3) h20.2 (KN_m kf1)) (by omega) hh hQ (by omega)) (fun v2 _ p2 => ?_)
  have c2v := p2.1.2.1
  refine put_1 (x := 35) c2v.1 ⟨by decide, by decide⟩ (fun v3 e4 => ok_lt.mpr ?_)
  have k3 := EMc.km c2v e4
  have e36 : F v3 706 = F v2 706 := congrArg _ (e4.1.1 706 (by simp))
  have q1 := PC_seq (Y := (szc v1 = szc v + 3 ∧ A v1 23 (szc v) = 24 ∧ A v1 23 (szc v + 1) = ((k : Nat) : Int)) ∧ OLQ v v1 s s ∧ TRYc u v lv pl q s o k ((k : Nat) : Int) ch) pv (PC_em (hi := m2) (q := s) cv e3) (Nat.le_refl _) hqs.1 (Nat.le_refl _) (fun gd o1 o2 y1 y2 => ⟨⟨y2.1, y2.2 0 (by simp), y2.2 1 (by simp)⟩, o2, y1⟩)
  have q2 := PC_seq (Y := ((szc v1 = szc v + 3 ∧ A v1 23 (szc v) = 24 ∧ A v1 23 (szc v + 1) = ((k : Nat) : Int)) ∧ OLQ v v1 s s ∧ TRYc u v lv pl q s o k ((k : Nat) : Int) ch) ∧ OLQ v1 v2 s r ∧ TYX v1 v2 lv (m2 + 1) s r (o + 2) (1 = 1) 1) q1 p2 (by omega) hqs.1 (by omega) (fun gd o1 o2 y1 y2 => ⟨y1, o2, y2⟩)
  have q3 := PC_seq (Y := (((szc v1 = szc v + 3 ∧ A v1 23 (szc v) = 24 ∧ A v1 23 (szc v + 1) = ((k : Nat) : Int)) ∧ OLQ v v1 s s ∧ TRYc u v lv pl q s o k ((k : Nat) : Int) ch) ∧ OLQ v1 v2 s r ∧ TYX v1 v2 lv (m2 + 1) s r (o + 2) (1 = 1) 1) ∧ szc v3 = szc v2 + 1 ∧ A v3 23 (szc v2) = 35 ∧ OLQ v2 v3 r r ∧ GDc v3 hi r) q2 (PC_em (hi := hi) (q := r) c2v e4) (Nat.le_refl _) (by omega) (Nat.le_refl _) (fun gd o1 o2 y1 y2 => ⟨y1, y2.1, y2.2 0 (by simp), o2, gd⟩)
  have kuv3 := q3.1
  have fru := FRG1 u 706
  have q4 := PC_706 (m0 := F u 706) q3 rfl cu.2.2.2.2.2.2.2.1
  rw [I_F (k := 706), wi_e, ok_bnd]
  have c4 := q4.1.2.1
  have ev4 : ∀ j, j ≠ 706 → F (wi v3 706 (F u 706)) j = F v3 j := fun j hj => by rw [F_wi fru.1 fru.2, if_neg hj]
  have e46 : F (wi v3 706 (F u 706)) 706 = F u 706 := by rw [F_wi fru.1 fru.2, if_pos rfl]
  have esz4 : szc (wi v3 706 (F u 706)) = szc v3 := by show (F (wi v3 706 (F u 706)) 441).toNat = _; rw [ev4 441 (by decide)]
  have eA4 : ∀ r j, A (wi v3 706 (F u 706)) r j = A v3 r j := fun _ _ => rfl
  have sg4 : ∀ {a b q r : Nat} {H : List (Nat × Tyc)} {z h m : Nat} {L : List Nat} {g x : Nat} {oo : Option Tyc}, SGc v3 a b q r H z h m L g x oo → SGc (wi v3 706 (F u 706)) a b q r H z h m L g x oo := fun p => SG_wi fru ⟨by decide, by decide, by decide⟩ p
  generalize wi v3 706 (F u 706) = v4 at q4 c4 e46 esz4 eA4 sg4 ⊢
  refine ok_mono (arrive_ok (N := N) (u := v4) hch (by omega)) (fun w _ hw => ok_some.mpr ?_)
  have k35 := KM_23 c4 hw.1
  have e6w : F w 706 = F u 706 := (congrArg _ (hw.1.1 706 (by simp)) : F w 706 = F v4 706).trans e46
  have e41 : A w 41 lv = A v3 41 lv := by
    have : A w 41 lv = A v4 41 lv := by show (w.2.2.1 41 lv).toInt = _; rw [hw.1.2.2.1 41 (by simp)]; rfl
    rw [this, eA4]
  have chn : TRYc u v lv pl q s o k ((k : Nat) : Int) ch → OLQ v v1 s s → OLQ v1 v2 s r → OLQ v2 v3 r r → ∃ Hp, CHNc v4 Hp ch ∧ (∀ p, p ∈ Hp → szc u ≤ p ∧ p < szc v) ∧ ∀ z h m L x, TPRc u v lv pl o k ((k : Nat) : Int) z h m L x → SGc v (szc u) (szc v) q s (Hp.map (fun p => (p, (h, m, L, 0, x)))) z h m L 0 x (some (h, m + knc u v, L, 0, x)) := fun ⟨Hp, c1, c2, _, c3⟩ o1 o2 o3 => by
    refine ⟨Hp, CHNc_k (fun p hp => ?_) c1, c2, c3⟩
    have hp2 : p < (F v 441).toNat := (c2 p hp).2
    have hcv := cv.1
    have f1 := k1.2.2.1
    have f2 := p2.1.2.2.1
    rw [eA4, o3.1 p (by omega), o2.1 p (by omega), o1.1 p (by omega)]
  have q5 := PC_arr (Y1 := F w 706 = F u 706 ∧ szc u < szc w ∧ ∀ m, NMc u w lv m → SGc w (szc u) (szc w) q r [] 0 k m [] 0 0 (some (k, m, [], 0, 0))) q4 hw.1 (fun gv y j hj => ?_) (fun gw gv y => ⟨e6w, ?_⟩)
  · refine PC_w q5 ?_ (Nat.le_refl _) (Nat.le_refl _) (fun _ z => z)
    have : (if g = 0 then (0 : Int) else 5) ≤ 12 * ((rg - r0 : Nat) : Int) := by
      by_cases z : g = 0
      · rw [if_pos z]; omega
      · rw [if_neg z]; have := hg3 z; omega
    have : (if k = 0 then (0 : Int) else 4) ≤ 4 := by split <;> omega
    simp only [List.length_append, List.length_cons, List.length_nil]
    omega
  · obtain ⟨⟨⟨-, o1, ty⟩, o2, -⟩, -, -, o3, -⟩ := y
    obtain ⟨Hp, c1, c2, -⟩ := chn ty o1 o2 o3
    refine (hw.2 Hp c1).2 j (fun hj2 => ?_)
    have : (F u 441).toNat ≤ j := (c2 j hj2).1
    omega
  · obtain ⟨⟨⟨⟨s1, w0, w1w⟩, o1, ty⟩, o2, yb⟩, s3, w3, o3, gd⟩ := y
    obtain ⟨Hp, ch1, hp1, tyt⟩ := chn ty o1 o2 o3
    have ar := hw.2 Hp ch1
    have uv := szc_le cu pv.1
    have v12 := szc_le k1.2.1 p2.1
    have esw : szc w = szc v3 := by
      rw [← esz4]
      show (F w 441).toNat = (F v4 441).toNat
      rw [show F w 441 = F v4 441 from congrArg _ (hw.1.1 441 (by simp))]
    refine ⟨by rw [esw]; omega, fun m nm => ?_⟩
    have l15 := gd.2.2.2.1
    obtain ⟨nm1, nm2⟩ := nm
    have a41a := k1.2.2.2.2.2.2.2.2
    have a41b := p2.1.2.2.2.2.2.2.2.2
    have a41c := k3.2.2.2.2.2.2.2.2
    have a40 := pv.1.2.2.2.2.2.2.1 lv (Nat.le_refl _)
    have a40b := k1.2.2.2.2.2.2.1 lv (Nat.le_refl _)
    have kn : ((knc u v : Nat) : Int) = F v 706 - F u 706 := by show (((F v 706 - F u 706).toNat : Nat) : Int) = _; omega
    have b6 := p2.2.1
    have kn2 : ((knc v1 v2 : Nat) : Int) = F v2 706 - F v1 706 := by show (((F v2 706 - F v1 706).toNat : Nat) : Int) = _; omega
    have c38 := k3.2.1.2.2.2.2.2.2.2.2
    have a40c := kuv3.2.2.2.2.2.2.1 lv (Nat.le_refl _)
    have hm40 : m + knc u v + knc v1 v2 ≤ 40 := by omega
    have h12b : F v1 712 = 0 := by rw [k1.2.2.2.2.2.1.1, pv.1.2.2.2.2.2.1.1]; exact h12
    have i1 := tyt 0 k m [] 0 ⟨by omega, by omega, ⟨nm1, by omega⟩, by simp, Or.inr (Or.inl ⟨k, rfl, Nat.le_refl _⟩)⟩
    obtain ⟨-, i3⟩ := yb 0 (m + knc u v) [] 0 0 ⟨by omega, ⟨by rw [a40b, a40, e16]; omega, by rw [a40b, a40, e16]; omega⟩, by simp, fun _ => rfl, ⟨fun z => absurd rfl z, fun z => by rw [h12b] at z; exact absurd z (by decide)⟩, fun _ => rfl⟩
    have i2 := SG_chos (u := v1) (a := szc v) (n := k) (q := s) (z := 0) (h := k) (m := m + knc u v) (L := []) (g := 0) (x := 0) (by omega) (by omega) (by omega) w0 w1w (Nat.le_refl _)
    rw [Nat.sub_self, ← s1] at i2
    have i4 := SG_ret (u := v3) (a := szc v2) (q := r) (z := 0) (h := 0 + 1) (m := m + knc u v + knc v1 v2) (L := []) (g := 0) (x := 0) (by omega) (by omega) hm40 w3 ⟨rfl, rfl, by omega, rfl⟩
    rw [← s3] at i4
    have j1 := SG_kw cv i1 k1.1 o1 (Nat.le_refl _) (Or.inl (Nat.le_refl _))
    have j12 := SG_seq j1 i2 (by omega) (fun hg => absurd rfl hg)
    have j12' := SG_kw k1.2.1 j12 p2.1.1 o2 (Nat.le_refl _) (Or.inl (Nat.le_refl _))
    have j13 := SG_seq j12' i3 (by omega) (fun hg => absurd rfl hg)
    have j13' := SG_kw c2v j13 k3.1 o3 (Nat.le_refl _) (Or.inl (Nat.le_refl _))
    have j14 := SG_seq j13' i4 (by omega) (fun hg => absurd rfl hg)
    rw [List.append_nil, List.append_nil, List.append_nil, ← List.append_nil (Hp.map _), ← esz4] at j14
    refine SG_arc (lv := lv) (H2 := []) (Hp := Hp) c4 hw.1 ar (sg4 j14) (by rw [esz4]; omega) (Or.inl rfl) (fun p t hp => ?_) (fun p hp => ?_) (fun p t t2 _ hp => by simp at hp)
    · obtain ⟨p2, hp2, h5⟩ := List.mem_map.mp hp
      injection h5 with h6 h7
      exact ⟨h7.symm, h6 ▸ hp2⟩
    · exact ⟨_, List.mem_map.mpr ⟨p, hp, rfl⟩⟩
end
end
section
set_option maxRecDepth 100000
def PPc (u : MS) (f o k n lo hi a b q r : Nat) : Prop := HDc n lo hi a b q r ∧ ∃ m c g m2 c1 s kb mb c2 kg rg ph : Nat, (A u 18 n = ((m : Nat) : Int) ∧ ORc u 1 (PAc u f) k m lo ph a c q q) ∧ (A u 19 n = ((g : Nat) : Int) ∧ ((g = 0 ∧ rg = m2 ∧ s = q) ∨ (1 ≤ g ∧ RWc u 1 (XPc u f (o + 1) 3) kg g rg m2 c c1 q s))) ∧ (A u 20 n = ((mb : Nat) : Int) ∧ RWc u 1 (XPc u f (o + 2) 3) kb mb (m2 + 1) hi c1 c2 s r) ∧ (c ≤ c1 ∧ c2 < n) ∧ (ph ≤ rg ∧ rg ≤ m2 ∧ q ≤ s) ∧ (g ≠ 0 → k ≠ 0 → ph + 1 ≤ rg)
def ddc (th : Int) : Nat := if th = 15 then 1 else 0
def PPRc (u w : MS) (lv lo o : Nat) (th : Int) (la : Prop) (z h m : Nat) (L : List Nat) (x : Nat) : Prop := z + ddc th ≤ h ∧ 2 * h ≤ lo + 16 ∧ NMc u w lv m ∧ L.length ≤ o ∧ (la → L = []) ∧ (th = 33 → x ≠ 0) ∧ (th ≠ 33 → x = 0)
def PTYc (u w : MS) (lv lo q r o : Nat) (th : Int) (la : Prop) (ce : Int) : Prop := F w 706 = F u 706 ∧ ∃ Hp : List Nat, CHNc w Hp ce ∧ (∀ p, p ∈ Hp → szc u ≤ p ∧ p < szc w) ∧ ∀ z h m L x, PPRc u w lv lo o th la z h m L x → SGc w (szc u) (szc w) q r (Hp.map (fun p => (p, (h - ddc th + 1, m, L, 0, 0)))) z h m L 0 x (some (h, m, L, 0, x))
def PaS (N : Nat) (S : SF_Cm_fun) (o k : Nat) : Prop := ∀ (f kk : Nat) (u : MS) (lv cc Q : Nat) (ps : Nat → Nat) (n lo hi a b q r la : Nat) (wh th : Int), f ≤ 120 → CMP u lv cc ps Q o lo → F u 712 = 0 ∨ F u 714 < 1000000000 → ORc u 1 (PPc u f o k) kk n lo hi a b q r → b ≤ 8000 → hi ≤ cc → r ≤ Q → la ≤ 1 → ((wh = -1 ∧ th = 15 ∧ k = 1) ∨ (wh = -1 ∧ th = 0 ∧ k = 0) ∨ (wh = -2 ∧ th = 33 ∧ k = 1)) → OK (fun w r1 => ∃ ce : Int, r1 = I ce ∧ RG ce ∧ PCQ u w lv (WBc ps lo hi) 0 hi q r (PTYc u w lv lo q r o th (la = 1) ce)) (S.2.2.1 u (I ((n : Nat) : Int)) (I wh) (I th) (I ((la : Nat) : Int)))
section
variable {u v w : MS} {N lv t hi lo o q r s c h m g x d a b k n f Q z la : Nat} {ps : Nat → Nat} {S : SF_Cm_fun} {W B wh th ce : Int} {L : List Nat} {H : List (Nat × Tyc)} {oo : Option Tyc} {Y Y1 : Prop}
theorem SG_seqx {x2 m1 h1 : Nat} {H2 : List (Nat × Tyc)} (y0 : SGc u a b q s H z h m L 0 x (some (h1, m1, L, 0, x2))) (y : SGc u b c s r H2 z h1 m1 L 0 x2 oo) (hx : x2 = x ∨ x2 = 0) (hm : m ≤ m1) : SGc u a c q r (H ++ H2) z h m L 0 x oo := by
  have ab := y0.1.1
  have bc := y.1.1
  refine SP_to (SP_seq (P := fun T v => ARc T v a c z m L 0 x) (SP_of y0) (SP_of y) (fun v T hA hTa hTb hTc hH hX => ⟨AR_l hX bc, ?_⟩))
  have X := AR_r hX ab hm (fun z => absurd rfl z)
  rcases hx with rfl | rfl
  · exact X
  · have := X.1.1
    exact ⟨X.1, X.2.1, fun z => absurd rfl z, by omega, fun z => by omega⟩
theorem PP_bd (f o k : Nat) : BdE (PPc u f o k) := fun _ _ _ _ _ _ _ h => h.1
theorem PP_k (hk : KMF u w) : StE u w (PPc u f o k) (PPc w f o k) := fun n lo hi a b q r h _ => by
  obtain ⟨hd, m, c, g, m2, c1, s, kb, mb, c2, kg, rg, ph, h18, h19, h20, h⟩ := h
  refine ⟨hd, m, c, g, m2, c1, s, kb, mb, c2, kg, rg, ph, ⟨by rw [hk.A (by simp)]; exact h18.1, OR_k (PA_k (Nat.le_refl _)) (PA_bd f) h18.2 (KN_m hk)⟩, ⟨by rw [hk.A (by simp)]; exact h19.1, ?_⟩, ⟨by rw [hk.A (by simp)]; exact h20.1, RW_k (XP_k (Nat.le_refl _) (Nat.le_refl _)) (XP_bd f (o + 2) 3) h20.2 (KN_m hk)⟩, h⟩
  rcases h19.2 with z | ⟨z1, z2⟩
  · exact Or.inl z
  · exact Or.inr ⟨z1, RW_k (XP_k (Nat.le_refl _) (Nat.le_refl _)) (XP_bd f (o + 1) 3) z2 (KN_m hk)⟩
theorem partC_ok {cc : Nat} {K : MS → Int32 → Prop} {G : MS → Int32 → Int32 → Int32 → Int32 → Int32 → Option (MS × Int32)} (hT : TrS N S o) (hB : BoS N S (o + 2)) (hN : 30000 ≤ N) (hf : f ≤ 120) (hu : CMP u lv cc ps Q o lo) (h12 : F u 712 = 0 ∨ F u 714 < 1000000000) (hX : PPc u f o k n lo hi a b q r) (hb : b ≤ 8000) (hh : hi ≤ cc) (hQ : r ≤ Q) (hla : la ≤ 1) (hw : (wh = -1 ∧ th = 15 ∧ k = 1) ∨ (wh = -1 ∧ th = 0 ∧ k = 0) ∨ (wh = -2 ∧ th = 33 ∧ k = 1)) (hce : RG ce) (kk : ∀ w (pj : Int), RG pj → KMF u w → PCQ u w lv (WBc ps lo hi) 0 hi q r (F w 706 = F u 706 ∧ ∃ p : Nat, pj = ((p : Nat) : Int) ∧ (szc u ≤ p ∧ p < szc w) ∧ A w 23 p = ce ∧ ∀ z h m L x, PPRc u w lv lo o th (la = 1) z h m L x → SGc w (szc u) (szc w) q r [(p, (h - ddc th + 1, m, L, 0, 0))] z h m L 0 x (some (h, m, L, 0, x))) → OK K (G w (I wh) (I th) (I ((la : Nat) : Int)) (I pj) (I (A u 21 n)))) :
    OK K (bnd (S.2.2.2.2.2.2.2.2.2.2.2.1 u (I wh) (I ((n : Nat) : Int))) (fun u23 r23 => br (decide (I th = 0)) (hb_Cm_parts_38 N S G u23 (I wh) (I th) (I ((la : Nat) : Int)) (I ce) (I ((n : Nat) : Int)) (I (F u 706)) r23) (bnd (hm_Co_put N u23 (I th)) (fun u25 _ => hb_Cm_parts_38 N S G u25 (I wh) (I th) (I ((la : Nat) : Int)) (I ce) (I ((n : Nat) : Int)) (I (F u 706)) r23)))) := by
  have hcs := CMP_c hu
  have cu := hu.1
  obtain ⟨hd, m, c, g, m2, c1, s, kb, mb, c2, kg, rg, ph, h18, h19, h20, ⟨hcc1, hc2n⟩, ⟨hpr, hrm, hqs⟩, hgk⟩ := hX
  unfold HDc at hd
  have gp := OR_hd (PA_bd f) h18.2
  have gb := (RW_hd (XP_bd f (o + 2) 3) h20.2).1
  unfold HDc at gb
  have i1 : inb (I ((n : Nat) : Int)) 8016 = true := (I_inb (by omega) (by omega)).mpr ⟨by omega, by omega⟩
  have wb : WBc ps lo ph + WBc ps rg m2 + WBc ps (m2 + 1) hi + 12 * ((rg - ph : Nat) : Int) + 12 ≤ WBc ps lo hi := by
    have w1 := WB_2 hcs.1 (lo := lo) (m := ph) (lo2 := rg) (hi := m2) (by omega) (by omega) (by omega) (by omega)
    have w2 := WB_2 hcs.1 (lo := lo) (m := m2) (lo2 := m2 + 1) (hi := hi) (by omega) (by omega) (by omega) (by omega)
    omega
  have hu6 := hu.2.2.2.2
  have dth : ddc th = (if th = 15 then 1 else 0) := rfl
  rw [ok_bnd]
  refine ok_mono (hT f k kg g m u lv cc Q ps n lo ph rg m2 m2 a c c1 q s wh hf (CMP_m hu (Nat.le_refl _) (by omega)) hu6 (by omega) h18 h19 hpr hrm (Nat.le_refl _) (by omega) (by omega) (fun _ => by omega) (by omega) ⟨by omega, by omega⟩) (fun v r1 hv => ?_)
  obtain ⟨ch, rfl, hch, pv⟩ := hv
  have cv := pv.1.2.1
  have pv6 := pv.2.1
  have e38 : ∀ (v1 : MS) (l : List Int), EMc v v1 l → ((l = [] ∧ th = 0) ∨ (l = [th] ∧ th ≠ 0)) → OK K (hb_Cm_parts_38 N S G v1 (I wh) (I th) (I ((la : Nat) : Int)) (I ce) (I ((n : Nat) : Int)) (I (F u 706)) (I ch)) := fun v1 l e3 hl => by
    have k1 := EMc.km cv e3
    have kf1 := KMF.tr pv.1.1 k1.1
    have e16 : F v1 706 = F v 706 := congrArg _ (e3.1.1 706 (by simp))
    unfold hb_Cm_parts_38
    rw [i1, ck_t, tnI (n := n) rfl (by omega), I_A (k := 20), kf1.A (j := 20) (by simp), h20.1, ok_bnd]
    have hv1 : CMP v1 lv cc ps Q (o + 2) (m2 + 1) := CMP_k hu (KMc.tr pv.1 k1) (by rw [e16]; omega) (by omega)
    refine ok_mono (hB f kb v1 lv cc Q ps mb (m2 + 1) hi c1 c2 s r la hf hv1 (RW_k (XP_k (Nat.le_refl _) (Nat.le_refl _)) (XP_bd f (o + 2) 3) h20.2 (KN_m kf1)) (by omega) hh hQ hla) (fun v2 _ p2 => ?_)
    have c2v := p2.1.2.1
    have b6 := p2.2.1
    have q1 := PC_seq (Y := (szc v1 = szc v + l.length ∧ ∀ j, j < l.length → A v1 23 (szc v + j) = l.getD j 0) ∧ OLQ v v1 s s ∧ TRYc u v lv lo q s o k wh ch) pv (PC_em (hi := m2) (q := s) cv e3) (Nat.le_refl _) hqs (Nat.le_refl _) (fun gd o1 o2 y1 y2 => ⟨y2, o2, y1⟩)
    have q2 := PC_seq (Y := ((szc v1 = szc v + l.length ∧ ∀ j, j < l.length → A v1 23 (szc v + j) = l.getD j 0) ∧ OLQ v v1 s s ∧ TRYc u v lv lo q s o k wh ch) ∧ OLQ v1 v2 s r ∧ TYX v1 v2 lv (m2 + 1) s r (o + 2) (la = 1) 1) q1 p2 (by omega) hqs (by omega) (fun gd o1 o2 y1 y2 => ⟨y1, o2, y2⟩)
    have e40 := q2.1.2.2.2.2.2.2.1 lv (Nat.le_refl _)
    have c40 := cu.2.2.2.2.2.2.2.1
    refine forget_B c2v (by omega) (by omega) (fun v3 l3 k3 e36 f3 em3 hl3 => ?_)
    have q3 := PC_fgt (Y1 := (((szc v1 = szc v + l.length ∧ ∀ j, j < l.length → A v1 23 (szc v + j) = l.getD j 0) ∧ OLQ v v1 s s ∧ TRYc u v lv lo q s o k wh ch) ∧ OLQ v1 v2 s r ∧ TYX v1 v2 lv (m2 + 1) s r (o + 2) (la = 1) 1) ∧ OLQ v2 v3 r r ∧ (∀ z h m L g x, z ≤ h → h ≤ 1090 → m ≤ 40 → (F v2 706 - F u 706).toNat ≤ m → ((F v2 706 - F u 706).toNat = 0 ∨ g = 0) → SGc v3 (szc v2) (szc v3) r r [] z h m L g x (some (h, m - (F v2 706 - F u 706).toNat, L, g, x)))) k3 e36 f3 em3 hl3 q2 (Int.le_refl _) (by omega) (fun gw gv ol y fg => ⟨y, ol, fg⟩)
    have c3v := k3.2.1
    refine put_1 (x := 18) c3v.1 ⟨by decide, by decide⟩ (fun w1 e4 => hook_B (x := ce) c3v.1.1 e4 hce (fun v4 e5 => ?_))
    have k4 := EMc.km c3v e5
    have c4v := k4.2.1
    have e46 : F v4 706 = F v3 706 := congrArg _ (e5.1.1 706 (by simp))
    have q4 := PC_seq (Y := ((((szc v1 = szc v + l.length ∧ ∀ j, j < l.length → A v1 23 (szc v + j) = l.getD j 0) ∧ OLQ v v1 s s ∧ TRYc u v lv lo q s o k wh ch) ∧ OLQ v1 v2 s r ∧ TYX v1 v2 lv (m2 + 1) s r (o + 2) (la = 1) 1) ∧ OLQ v2 v3 r r ∧ (∀ z h m L g x, z ≤ h → h ≤ 1090 → m ≤ 40 → (F v2 706 - F u 706).toNat ≤ m → ((F v2 706 - F u 706).toNat = 0 ∨ g = 0) → SGc v3 (szc v2) (szc v3) r r [] z h m L g x (some (h, m - (F v2 706 - F u 706).toNat, L, g, x)))) ∧ (szc v4 = szc v3 + 2 ∧ A v4 23 (szc v3) = 18 ∧ A v4 23 (szc v3 + 1) = ce) ∧ OLQ v3 v4 r r ∧ GDc v4 hi r) q3 (PC_em (hi := hi) (q := r) c3v e5) (Nat.le_refl _) (by omega) (Nat.le_refl _) (fun gd o1 o2 y1 y2 => ⟨y1, ⟨y2.1, y2.2 0 (by simp), y2.2 1 (by simp)⟩, o2, gd⟩)
    rw [ok_bnd]
    refine ok_mono (arrive_ok (N := N) (u := v4) hch (by omega)) (fun w _ hw5 => ?_)
    have kuv4 := q4.1
    have k5 := KM_23 c4v hw5.1
    have kuw := KMc.tr kuv4 k5
    rw [ck_t, I_A (k := 21), kuw.1.A (j := 21) (by simp)]
    have e6w : F w 706 = F u 706 := ((congrArg _ (hw5.1.1 706 (by simp)) : F w 706 = F v4 706).trans e46).trans e36
    have c4r := c4v.1
    refine kk w (F v4 441 - 1) ⟨by omega, by omega⟩ kuw.1 ?_
    have chn : TRYc u v lv lo q s o k wh ch → OLQ v v1 s s → OLQ v1 v2 s r → OLQ v2 v3 r r → OLQ v3 v4 r r → ∃ Hp, CHNc v4 Hp ch ∧ (∀ p, p ∈ Hp → szc u ≤ p ∧ p < szc v) ∧ ∀ z h m L x, TPRc u v lv lo o k wh z h m L x → SGc v (szc u) (szc v) q s (Hp.map (fun p => (p, (h, m, L, 0, x)))) z h m L 0 x (some (h, m + knc u v, L, 0, x)) := fun ⟨Hp, c1, c2, _, c3⟩ o1 o2 o3 o4 => by
      refine ⟨Hp, CHNc_k (fun p hp => ?_) c1, c2, c3⟩
      have hp2 : p < (F v 441).toNat := (c2 p hp).2
      have hcv := cv.1
      have f1 := k1.2.2.1
      have f2 := p2.1.2.2.1
      have f3 := k3.2.2.1
      rw [o4.1 p (by omega), o3.1 p (by omega), o2.1 p (by omega), o1.1 p (by omega)]
    have ll : ((l.length : Nat) : Int) ≤ 1 ∧ (l.length = 0 ∨ th ≠ 0) := by
      rcases hl with ⟨rfl, -⟩ | ⟨rfl, z⟩
      · exact ⟨by simp, Or.inl rfl⟩
      · exact ⟨by simp, Or.inr z⟩
    refine PC_w (PC_arr (Y1 := F w 706 = F u 706 ∧ ∃ p : Nat, F v4 441 - 1 = ((p : Nat) : Int) ∧ (szc u ≤ p ∧ p < szc w) ∧ A w 23 p = ce ∧ ∀ z h m L x, PPRc u w lv lo o th (la = 1) z h m L x → SGc w (szc u) (szc w) q r [(p, (h - ddc th + 1, m, L, 0, 0))] z h m L 0 x (some (h, m, L, 0, x))) (t := 0) ⟨q4.1, ?_, q4.2.2.1, q4.2.2.2⟩ hw5.1 (fun gv y j hj => ?_) (fun gw gv y => ⟨e6w, ?_⟩)) ?_ (Nat.le_refl _) (Nat.le_refl _) (fun _ z => z)
    · rw [e46, e36]; omega
    · obtain ⟨⟨⟨⟨-, o1, ty⟩, o2, -⟩, o3, -⟩, -, o4, -⟩ := y
      obtain ⟨Hp, c1, c2, -⟩ := chn ty o1 o2 o3 o4
      refine (hw5.2 Hp c1).2 j (fun hj2 => ?_)
      have : (F u 441).toNat ≤ j := (c2 j hj2).1
      omega
    · obtain ⟨⟨⟨⟨⟨s1, w0⟩, o1, ty⟩, o2, yb⟩, o3, fg⟩, ⟨s4, w4, w4b⟩, o4, gd⟩ := y
      obtain ⟨Hp, ch1, hp1, tyt⟩ := chn ty o1 o2 o3 o4
      have ar := hw5.2 Hp ch1
      have uv := szc_le cu pv.1
      have vv1 := szc_le cv k1
      have v12 := szc_le k1.2.1 p2.1
      have v23 := szc_le c2v k3
      have esw : szc w = szc v4 := by
        show (F w 441).toNat = (F v4 441).toNat
        rw [show F w 441 = F v4 441 from congrArg _ (hw5.1.1 441 (by simp))]
      have pj : F v4 441 - 1 = ((szc v3 + 1 : Nat) : Int) := by
        have h5 : (F v4 441).toNat = szc v3 + 2 := s4
        omega
      have npj : szc v3 + 1 ∉ Hp := fun hp => by have := (hp1 _ hp).2; omega
      refine ⟨szc v3 + 1, pj, ⟨by omega, by rw [esw]; omega⟩, by rw [ar.2 _ npj]; exact w4b, fun z h m L x pp => ?_⟩
      have l15 := gd.2.2.2.1
      obtain ⟨pz, ph2, ⟨nm1, nm2⟩, pL, pla, px1, px2⟩ := pp
      have a41z : A w 41 lv = A v4 41 lv := by show (w.2.2.1 41 lv).toInt = _; rw [hw5.1.2.2.1 41 (by simp)]; rfl
      have a41a := k1.2.2.2.2.2.2.2.2
      have a41b := p2.1.2.2.2.2.2.2.2.2
      have a41c := k3.2.2.2.2.2.2.2.2
      have a41d := k4.2.2.2.2.2.2.2.2
      have a40 := pv.1.2.2.2.2.2.2.1 lv (Nat.le_refl _)
      have a40b := k1.2.2.2.2.2.2.1 lv (Nat.le_refl _)
      have a40c := q2.1.2.2.2.2.2.2.1 lv (Nat.le_refl _)
      have kn : ((knc u v : Nat) : Int) = F v 706 - F u 706 := by show (((F v 706 - F u 706).toNat : Nat) : Int) = _; omega
      have kn2 : ((knc v1 v2 : Nat) : Int) = F v2 706 - F v1 706 := by show (((F v2 706 - F v1 706).toNat : Nat) : Int) = _; omega
      have c28 := c2v.2.2.2.2.2.2.2.2
      have hm40 : m + knc u v + knc v1 v2 ≤ 40 := by omega
      have u12 : F u 712 = 0 := by
        rcases h12 with h12 | h12
        · exact h12
        · have := kuv4.2.2.2.1
          have := gd.1
          omega
      have h12b : F v1 712 = 0 := by rw [k1.2.2.2.2.2.1.1, pv.1.2.2.2.2.2.1.1]; exact u12
      have i1 := tyt z h m L x ⟨by omega, ph2, ⟨nm1, by omega⟩, pL, by
        rcases hw with ⟨z1, z2, -⟩ | ⟨-, -, z3⟩ | ⟨z1, z2, -⟩
        · have : ddc th = 1 := by rw [dth, if_pos z2]
          exact Or.inr (Or.inr (Or.inl ⟨z1, by omega⟩))
        · exact Or.inl z3
        · exact Or.inr (Or.inr (Or.inr ⟨z1, px1 z2⟩))⟩
      have i2 : SGc v1 (szc v) (szc v1) s s [] z h (m + knc u v) L 0 x (some (h - ddc th, m + knc u v, L, 0, 0)) := by
        rw [s1]
        rcases hw with ⟨-, z2, -⟩ | ⟨-, z2, -⟩ | ⟨-, z2, -⟩
        · rcases hl with ⟨-, z3⟩ | ⟨rfl, -⟩
          · omega
          · have x0 := px2 (by omega)
            subst x0
            rw [show ddc th = 1 by rw [dth, if_pos z2]] at pz ⊢
            exact SG_drop (by omega) (by omega) (by omega) ((w0 0 (by simp)).trans z2) (by omega)
        · rcases hl with ⟨rfl, -⟩ | ⟨-, z3⟩
          · have x0 := px2 (by omega)
            subst x0
            rw [show ddc th = 0 by rw [dth, if_neg (by omega)]]
            exact SG_nl
          · omega
        · rcases hl with ⟨-, z3⟩ | ⟨rfl, -⟩
          · omega
          · rw [show ddc th = 0 by rw [dth, if_neg (by omega)]] at pz ⊢
            exact SG_take (by omega) (by omega) (by omega) ((w0 0 (by simp)).trans z2) ⟨rfl, px1 z2⟩
      obtain ⟨-, i3⟩ := yb (h - ddc th) (m + knc u v) L 0 0 ⟨by omega, ⟨by rw [a40b, a40, e16]; omega, by rw [a40b, a40, e16]; omega⟩, by omega, pla, ⟨fun z => absurd rfl z, fun z => by rw [h12b] at z; exact absurd z (by decide)⟩, fun _ => rfl⟩
      have i4 := fg z (h - ddc th + 1) (m + knc u v + knc v1 v2) L 0 0 (by omega) (by omega) hm40 (by omega) (Or.inr rfl)
      rw [show m + knc u v + knc v1 v2 - (F v2 706 - F u 706).toNat = m by omega] at i4
      have i5 := SG_jump (u := v4) (a := szc v3) (q := r) (z := z) (h := h - ddc th + 1) (m := m) (L := L) (g := 0) (x := 0) (by omega) (by omega) (by omega) w4
      rw [← s4] at i5
      have j1 := SG_kw cv i1 k1.1 o1 (Nat.le_refl _) (Or.inl (Nat.le_refl _))
      have j12 := SG_seqx j1 i2 (Or.inl rfl) (by omega)
      have j12' := SG_kw k1.2.1 j12 p2.1.1 o2 (Nat.le_refl _) (Or.inl (Nat.le_refl _))
      have j13 := SG_seqx j12' (SG_z (z2 := z) i3 (by omega)) (Or.inr rfl) (by omega)
      have j13' := SG_kw c2v j13 k3.1 o3 (Nat.le_refl _) (Or.inl (Nat.le_refl _))
      have j14 := SG_seqx j13' i4 (Or.inr rfl) (by omega)
      have j14' := SG_kw c3v j14 k4.1 o4 (Nat.le_refl _) (Or.inl (Nat.le_refl _))
      have j15 := SG_seqx j14' i5 (Or.inr rfl) (Nat.le_refl _)
      rw [List.append_nil, List.append_nil, List.append_nil] at j15
      refine SG_arc (lv := lv) (H2 := [(szc v3 + 1, (h - ddc th + 1, m, L, 0, 0))]) (Hp := Hp) c4v hw5.1 ar j15 (by omega) (Or.inl rfl) (fun p t hp => ?_) (fun p hp => ?_) (fun p t t2 hp hp2 => ?_)
      · obtain ⟨p2, hp2, h5⟩ := List.mem_map.mp hp
        injection h5 with h6 h7
        exact ⟨h7.symm, h6 ▸ hp2⟩
      · exact ⟨_, List.mem_map.mpr ⟨p, hp, rfl⟩⟩
      · obtain ⟨p3, hp3, h5⟩ := List.mem_map.mp hp
        injection h5 with h6 h7
        simp only [List.mem_singleton] at hp2
        injection hp2 with h8 h9
        exact npj (h8 ▸ h6 ▸ hp3)
    · have : (if g = 0 then (0 : Int) else 5) ≤ 12 * ((rg - ph : Nat) : Int) ∨ k = 0 := by
        by_cases z : g = 0
        · rw [if_pos z]; exact Or.inl (by omega)
        · rw [if_neg z]
          by_cases z2 : k = 0
          · exact Or.inr z2
          · have := hgk z z2; exact Or.inl (by omega)
      have h5 : (if g = 0 then (0 : Int) else 5) ≤ 5 := by split <;> omega
      simp only [List.length_append, List.length_cons, List.length_nil]
      rcases hw with ⟨-, z2, z3⟩ | ⟨-, z2, z3⟩ | ⟨-, z2, z3⟩
      · rw [if_neg (by omega)]; omega
      · rw [if_pos z3]
        have : l.length = 0 := by rcases ll.2 with z | z <;> omega
        omega
      · rw [if_neg (by omega)]; omega
  refine ok_br.mpr ⟨fun zt => ?_, fun zt => ?_⟩
  · have : th = 0 := by
      rcases hw with ⟨-, z2, -⟩ | ⟨-, z2, -⟩ | ⟨-, z2, -⟩
      · rw [z2] at zt; exact absurd zt (by decide)
      · exact z2
      · rw [z2] at zt; exact absurd zt (by decide)
    exact e38 v [] (EMc.nl cv.1.2) (Or.inl ⟨rfl, this⟩)
  · have : th ≠ 0 := fun z => by rw [z] at zt; exact absurd zt (by decide)
    exact put_1 (x := th) cv.1 ⟨by omega, by omega⟩ (fun v1 e1 => e38 v1 [th] e1 (Or.inr ⟨rfl, this⟩))
theorem partsX_ok {cc : Nat} (hT : TrS N S o) (hB : BoS N S (o + 2)) (hN : 30000 ≤ N) (hf : f ≤ 120) (hu : CMP u lv cc ps Q o lo) (h12 : F u 712 = 0 ∨ F u 714 < 1000000000) (hla : la ≤ 1) (hw : (wh = -1 ∧ th = 15 ∧ k = 1) ∨ (wh = -1 ∧ th = 0 ∧ k = 0) ∨ (wh = -2 ∧ th = 33 ∧ k = 1)) : ∀ (kk M n x hi a b q2 r : Nat) (ce : Int) (v : MS), RWc v 1 (PPc v f o k) kk n x hi a b q2 r → PCQ u v lv (WBc ps lo x) 0 x q q2 (PTYc u v lv lo q q2 o th (la = 1) ce) → lo ≤ x → q ≤ q2 → RG ce → b ≤ 8000 → hi ≤ cc → r ≤ Q → kk + 1 ≤ M → OK (fun w r1 => ∃ ce : Int, r1 = I ce ∧ RG ce ∧ PCQ u w lv (WBc ps lo hi) 0 hi q r (PTYc u w lv lo q r o th (la = 1) ce)) (hg_Cm_parts N S M v (I wh) (I th) (I ((la : Nat) : Int)) (I ce) (I ((n : Nat) : Int)))
  | 0, _, _, _, _, _, _, _, _, _, _, h, _, _, _, _, _, _, _, _ => h.elim
  | kk + 1, M, n, x, hi, a, b, q2, r, ce, v, h, pv, hlx, hqq, hce, hb, hh, hQ, hM => by
    obtain ⟨M, rfl⟩ : ∃ M2, M = M2 + 1 + 1 := ⟨M - 2, by omega⟩
    show OK _ (hb_Cm_parts_6 N S (hg_Cm_parts N S (M + 1)) v (I wh) (I th) (I ((la : Nat) : Int)) (I ce) (I ((n : Nat) : Int)))
    obtain ⟨m, c2, s, e, h⟩ := h
    have he := PP_bd f o k _ _ _ _ _ _ _ e
    unfold HDc at he
    have hms : m ≤ hi ∧ c2 ≤ b ∧ s ≤ r := by
      rcases h with ⟨-, -, h1, h2, h3⟩ | ⟨-, n2, -, h3⟩
      · omega
      · have := (RW_hd (PP_bd f o k) h3).1; unfold HDc at this; omega
    have hcs := CMP_c hu
    have cv := pv.1.2.1
    have pv6 := pv.2.1
    unfold hb_Cm_parts_6
    refine k_c (y := 0) rfl ⟨by omega, by omega⟩ ⟨by decide, by decide⟩ (fun z => absurd z (by omega)) (fun _ => ?_)
    rw [I_F (k := 706)]
    have h12v : F v 712 = 0 ∨ F v 714 < 1000000000 := by
      rcases h12 with z | z
      · exact Or.inl (by rw [pv.1.2.2.2.2.2.1.1]; exact z)
      · have := pv.1.2.2.2.1
        exact Or.inr (by omega)
    refine partC_ok (k := k) (f := f) (o := o) (lo := x) (hi := m) (a := a) (b := c2) (q := q2) (r := s) (lv := lv) (Q := Q) (ps := ps) hT hB hN hf (CMP_k hu pv.1 (by have := hu.2.2.2.2; omega) (Nat.le_refl _)) h12v e (by clear h; omega) (by clear h; omega) (by clear h; omega) hla hw hce (fun w pj hpj kw pw => ?_)
    have wb := WB_2 hcs.1 (lo := lo) (m := x) (lo2 := x) (hi := m) (by omega) (by omega) (by omega) (by clear h; omega)
    have p2 : PCQ u w lv (WBc ps lo m) 0 m q s (PTYc u w lv lo q s o th (la = 1) pj) := by
      refine PC_w (PC_seq pv pw (by omega) hqq (by omega) (fun gd o1 o2 y1 y2 => ?_)) (by omega) (by omega) (Nat.le_refl _) (fun _ z => z)
      obtain ⟨e6, Hp, ch, hp, ty⟩ := y1
      obtain ⟨e6b, p, z1, z2, z3, tw⟩ := y2
      have uv := szc_le hu.1 pv.1
      have vw := szc_le cv pw.1
      have cu1 := hu.1.1
      refine ⟨e6b.trans e6, p :: Hp, ⟨z1, ⟨?_, ?_⟩, fun p2 hp2 => by have := (hp p2 hp2).2; omega, ?_⟩, fun p2 hp2 => ?_, fun z h m L x0 pp => ?_⟩
      · have : (F u 441).toNat ≤ szc v := uv
        omega
      · have h5 := gd.2.2.1
        have h6 : p < (F w 441).toNat := z2.2
        omega
      · rw [z3]
        exact CHNc_k (fun p2 hp2 => o2.1 p2 (by have h5 : p2 < (F v 441).toNat := (hp p2 hp2).2; omega)) ch
      · simp only [List.mem_cons] at hp2
        rcases hp2 with rfl | hp2
        · exact ⟨by omega, z2.2⟩
        · have := hp p2 hp2
          exact ⟨this.1, by omega⟩
      · obtain ⟨p1, p2, ⟨p3, p4⟩, p5⟩ := pp
        have a41 := pw.1.2.2.2.2.2.2.2.2
        have a40 := pv.1.2.2.2.2.2.2.1 lv (Nat.le_refl _)
        have i1 := ty z h m L x0 ⟨p1, p2, ⟨p3, by omega⟩, p5⟩
        have i2 := tw z h m L x0 ⟨p1, by omega, ⟨by rw [a40, e6]; exact p3, by rw [a40, e6]; exact p4⟩, p5⟩
        have j1 := SG_kw cv i1 pw.1.1 o2 (Nat.le_refl _) (Or.inl (Nat.le_refl _))
        have j := SG_seq j1 i2 (Nat.le_refl _) (fun _ => rfl)
        refine SG_pm (fun p t => ?_) j
        simp only [List.mem_append, List.map_cons, List.mem_cons, List.not_mem_nil, or_false]
        exact Or.comm
    rcases h with ⟨k0, h0, rfl, rfl, rfl⟩ | ⟨-, n2, h2, h3⟩
    · rw [h0]
      show OK _ (hb_Cm_parts_6 N S (hg_Cm_parts N S M) w (I wh) (I th) (I ((la : Nat) : Int)) (I pj) (I 0))
      unfold hb_Cm_parts_6
      exact k_c (y := 0) rfl ⟨by decide, by decide⟩ ⟨by decide, by decide⟩ (fun _ => ok_some.mpr ⟨pj, rfl, hpj, p2⟩) (fun z => absurd rfl z)
    · rw [h2]
      have g1 := (RW_hd (PP_bd f o k) h3).1
      unfold HDc at g1
      have wb2 := WB_1 hcs.1 (lo := lo) (lo2 := lo) (hi2 := m) (hi := m + 1) (by omega) (by omega) (by omega) (by omega)
      refine partsX_ok hT hB hN hf hu h12 hla hw kk (M + 1) n2 (m + 1) hi c2 b s r pj w (RW_k (PP_k kw) (PP_bd f o k) h3 (KN_m kw)) (PC_w p2 (by omega) (by omega) (by omega) (fun _ z => z)) (by omega) (by omega) hpj hb hh hQ (by omega)
theorem partsC_ok (hT : TrS N S o) (hB : BoS N S (o + 2)) (hN : 30000 ≤ N) {S2 : SF_Cm_fun} (h2 : S2.2.2.1 = hm_Cm_parts N S) : PaS N S2 o k := by
  intro f kk u lv cc Q ps n lo hi a b q r la wh th hf hu h12 h hb hh hQ hla hw
  rw [h2]
  unfold hm_Cm_parts hb_Cm_parts_0
  have p0 : PCQ u u lv (WBc ps lo lo) 0 lo q q (PTYc u u lv lo q q o th (la = 1) 0) := PC_w (PC_rf (hi := lo) (q := q) hu.1) (by unfold WBc; simp) (Nat.le_refl _) (Nat.le_refl _) (fun _ _ => ⟨rfl, [], rfl, fun p hp => absurd hp (by simp), fun z h m L x pp => SG_nl⟩)
  rcases h with ⟨rfl, rfl, rfl, rfl, rfl⟩ | ⟨h1, h⟩
  · obtain ⟨N, rfl⟩ : ∃ N2, N = N2 + 1 := ⟨N - 1, by omega⟩
    show OK _ (hb_Cm_parts_6 (N + 1) S (hg_Cm_parts (N + 1) S N) u (I wh) (I th) (I ((la : Nat) : Int)) (I 0) (I 0))
    unfold hb_Cm_parts_6
    exact k_c (y := 0) rfl ⟨by decide, by decide⟩ ⟨by decide, by decide⟩ (fun _ => ok_some.mpr ⟨0, rfl, ⟨by decide, by decide⟩, p0⟩) (fun z => absurd rfl z)
  · have := RW_cnt (PP_bd f o k) h
    exact partsX_ok hT hB hN hf hu h12 hla hw kk N n lo hi a b q r 0 u h p0 (Nat.le_refl _) (Nat.le_refl _) ⟨by decide, by decide⟩ hb hh hQ (by omega)
end
end
section
set_option maxRecDepth 100000
def ReS (N : Nat) (S : SF_Cm_fun) (o cl : Nat) : Prop := ∀ (f : Nat) (u : MS) (lv c Q : Nat) (ps : Nat → Nat) (n lo hi a b q r la : Nat), f ≤ 120 → CMP u lv c ps Q o lo → F u 712 = 0 ∨ F u 714 < 1000000000 → XPc u f o cl n lo hi a b q r → A u 16 n = 11 → b ≤ 8000 → hi ≤ c → r ≤ Q → la ≤ 1 → OK (fun w _ => PXS u w lv ps lo hi q r o (la = 1) 1) (S.2.1 u (I ((n : Nat) : Int)) (I ((la : Nat) : Int)))
section
variable {u v w : MS} {N lv t t1 t2 hi hi1 lo o q r s c h m g x d a b k n f Q z la qa ra qb rb : Nat} {ps : Nat → Nat} {S : SF_Cm_fun} {W W1 W2 B wh th ce : Int} {L : List Nat} {H H1 H2 : List (Nat × Tyc)} {oo : Option Tyc} {Y Y1 Y2 : Prop} {P P1 P2 : (Nat → Option Tyc) → MS → Prop} {y y1 : Tyc} {E E2 : Nat → Nat → Nat → Nat → Nat → Nat → Nat → Prop}
theorem RW_mp (h : ∀ n lo hi a b q r, E n lo hi a b q r → E2 n lo hi a b q r) : ∀ {k n lo hi a b q r : Nat}, RWc u d E k n lo hi a b q r → RWc u d E2 k n lo hi a b q r
  | 0, _, _, _, _, _, _, _, z => z
  | k + 1, n, lo, hi, a, b, q, r, z => by
    obtain ⟨m, c, s, e, z⟩ := z
    refine ⟨m, c, s, h _ _ _ _ _ _ _ e, ?_⟩
    rcases z with z | ⟨z1, n2, z2, z3⟩
    · exact Or.inl z
    · exact Or.inr ⟨z1, n2, z2, RW_mp h z3⟩
theorem OR_mp (h : ∀ n lo hi a b q r, E n lo hi a b q r → E2 n lo hi a b q r) (z : ORc u d E k n lo hi a b q r) : ORc u d E2 k n lo hi a b q r := by
  rcases z with z | ⟨z1, z2⟩
  · exact Or.inl z
  · exact Or.inr ⟨z1, RW_mp h z2⟩
theorem CSP_pp : CSPc u (PAc u f) (XPc u f (o + 2) 3) (XPc u f (o + 1) 3) n lo hi a b q r → PPc u f o 1 n lo hi a b q r := fun ⟨hd, m1, hn, _, _, m, c, g, m2, c1, s, kb, mb, c2, h18, h19, h20, hc2⟩ => by
  have gp := OR_hd (PA_bd f) h18.2
  rcases h19 with ⟨e19, ⟨z1, z2, z3, z4⟩ | ⟨z1, kg, z2⟩⟩
  · exact ⟨hd, m, c, g, m2, c1, s, kb, mb, c2, 0, m2, m1, h18, ⟨e19, Or.inl ⟨z1, rfl, z4⟩⟩, h20, ⟨by omega, hc2⟩, ⟨by omega, by omega, by omega⟩, fun z => absurd z1 z⟩
  · have gr := (RW_hd (XP_bd f (o + 1) 3) z2).1
    unfold HDc at gr
    exact ⟨hd, m, c, g, m2, c1, s, kb, mb, c2, kg, m1 + 1, m1, h18, ⟨e19, Or.inr ⟨z1, z2⟩⟩, h20, ⟨by omega, hc2⟩, ⟨by omega, by omega, by omega⟩, fun _ _ => Nat.le_refl _⟩
theorem CHP_pp : CHPc u (XPc u f (o + 2) 3) (XPc u f (o + 1) 3) n lo hi a b q r → PPc u f o 0 n lo hi a b q r := fun ⟨hd, _, _, e18, g, kg, m2, c1, s, kb, mb, c2, h19, h20, hc2⟩ => by
  have gr := (RW_hd (XP_bd f (o + 1) 3) h19.2.2).1
  unfold HDc at gr
  exact ⟨hd, 0, a, g, m2, c1, s, kb, mb, c2, kg, lo, lo, ⟨e18, Or.inl ⟨rfl, rfl, rfl, rfl, rfl⟩⟩, ⟨h19.1, Or.inr ⟨h19.2.1, h19.2.2⟩⟩, h20, ⟨by omega, hc2⟩, ⟨by omega, by omega, by omega⟩, fun _ z => absurd rfl z⟩
theorem PC_seqw (a : PCQ u v lv W1 t1 hi1 qa ra Y1) (b : PCQ v w lv W2 t2 hi qb rb Y2) (h1 : hi1 ≤ hi) (ha : q ≤ qa ∧ q ≤ qb) (hr : ra ≤ r ∧ rb ≤ r) (hY : GDc w hi r → OLQ u v qa ra → OLQ v w qb rb → Y1 → Y2 → Y) : PCQ u w lv (W1 + W2) (t1 + t2) hi q r Y := by
  obtain ⟨a1, a2, a3, a4⟩ := a
  obtain ⟨b1, b2, b3, b4⟩ := b
  refine ⟨KMc.tr a1 b1, by omega, fun e => ?_, fun g => ?_⟩
  · have := b3 e
    have := a3 (b1.2.2.2.2.1 e)
    omega
  · obtain ⟨o2, y2⟩ := b4 ⟨g.1, g.2.1, g.2.2.1, g.2.2.2.1, by have := g.2.2.2.2; omega⟩
    obtain ⟨o1, y1⟩ := a4 (GD_u a1.2.1 b1 g h1 hr.1)
    refine ⟨⟨fun j hj => (o2.1 j (by have := a1.2.2.1; omega)).trans (o1.1 j hj), fun pl hp => ?_⟩, hY g o1 o2 y1 y2⟩
    obtain ⟨a1, a2, a3⟩ := o1.2 pl (by omega)
    obtain ⟨b1, b2, b3⟩ := o2.2 pl (by omega)
    exact ⟨b1.trans a1, b2.trans a2, b3.trans a3⟩
theorem SP_seqr (y0 : SGp P1 u a b s r H1 y (some y1)) (y2 : SGp P2 u b c q s H2 y1 oo) (f1 : ∀ v T, P T v → P1 T v ∧ P2 T v) : SGp P u a c q r (H1 ++ H2) y oo := by
  obtain ⟨⟨z1, z1'⟩, z2, z3, T1, z4, z5⟩ := y0
  obtain ⟨⟨w1, w1'⟩, y2, y3, T2, y4, y5⟩ := y2
  have ab : a = b → _ := fun e => z2 e
  refine ⟨⟨by omega, by omega⟩, fun e => ?_, fun p t hp => ?_, fun i => if i < b then T1 i else T2 i, fun hac => ?_, fun v T ha ht hT ho hH hX => ?_⟩
  · have e1 := ab (by omega)
    rw [y2 (by omega)]
    exact e1
  · rcases List.mem_append.mp hp with hp | hp
    · have := z3 p t hp; omega
    · have := y3 p t hp; omega
  · show (if a < b then T1 a else T2 a) = _
    by_cases e : a < b
    · rw [if_pos e]; exact z4 e
    · have e2 : a = b := by omega
      have e3 := ab e2
      rw [if_neg e, e2, y4 (by omega)]
      exact e3
  · have hT1 : ∀ i, a ≤ i → i < b → T i = T1 i := fun i i1 i2 => by
      rw [hT i i1 (by omega)]
      show (if i < b then T1 i else T2 i) = _
      rw [if_pos i2]
    have hT2 : ∀ i, b ≤ i → i < c → T i = T2 i := fun i i1 i2 => by
      rw [hT i (by omega) i2]
      show (if i < b then T1 i else T2 i) = _
      rw [if_neg (by omega)]
    have hb : T b = some y1 := by
      by_cases e : b < c
      · rw [hT2 b (Nat.le_refl _) e]; exact y4 e
      · have e2 : b = c := by omega
        rw [e2]; exact ho _ (y2 e2)
    obtain ⟨hX1, hX2⟩ := f1 v T hX
    obtain ⟨r1, r2⟩ := z5 v T (fun j j1 j2 j3 => ha j j1 (by omega) (fun t hp => by
      rcases List.mem_append.mp hp with hp | hp
      · exact j3 t hp
      · have := y3 j t hp; omega)) (ht.mo w1' (Nat.le_refl _)) hT1 (fun y9 e => by injection e with e; rw [← e]; exact hb) (fun p t hp => by
        obtain ⟨d, d1, d2, d3⟩ := hH p t (List.mem_append.mpr (Or.inl hp))
        exact ⟨d, d1, by omega, d3⟩) hX1
    obtain ⟨r3, r4⟩ := y5 v T (fun j j1 j2 j3 => ha j (by omega) j2 (fun t hp => by
      rcases List.mem_append.mp hp with hp | hp
      · have := z3 j t hp; omega
      · exact j3 t hp)) (ht.mo (Nat.le_refl _) z1') hT2 ho (fun p t hp => hH p t (List.mem_append.mpr (Or.inr hp))) hX2
    refine ⟨fun i h m L g x i1 i2 e => ?_, fun pl p1 p2 => ?_⟩
    · rcases Nat.lt_or_ge i b with i3 | i3
      · exact r1 i h m L g x i1 i3 e
      · exact r3 i h m L g x i3 i2 e
    · rcases Nat.lt_or_ge pl s with p3 | p3
      · exact r4 pl p1 p3
      · exact r2 pl p3 p2
theorem SG_seqr {h1 : Nat} (y0 : SGc u a b s r H1 z h m L 0 0 (some (h1, m, L, 0, 0))) (y2 : SGc u b c q s H2 z h1 m L 0 0 oo) : SGc u a c q r (H1 ++ H2) z h m L 0 0 oo := SP_to (SP_seqr (P := fun T v => ARc T v a c z m L 0 0) (SP_of y0) (SP_of y2) (fun v T hX => ⟨AR_l hX y2.1.1, AR_r hX y0.1.1 (Nat.le_refl _) (fun _ => rfl)⟩))
theorem recv1 {K : MS → Unit → Prop} {F1 : MS → Int32 → Option (MS × Unit)} {tt : Int} {cc mm m1 kk s1 : Nat} (hPa : PaS N S o 1) (hN : 30000 ≤ N) (hf : f ≤ 120) (hv : CMP v lv cc ps Q o (lo + 1)) (h12 : F v 712 = 0 ∨ F v 714 < 1000000000) (hi1 : n ≤ 8000) (e19 : A v 19 n = ((mm : Nat) : Int)) (hr : ORc v 1 (PPc v f o 1) kk mm (lo + 1) m1 a b q s1) (hb : b ≤ 8000) (hh : m1 ≤ cc) (hQ : s1 ≤ Q) (hla : la ≤ 1) (ht : tt = 0 ∨ tt = 1) (kk2 : ∀ w (ce : Int), RG ce → PCQ v w lv (WBc ps (lo + 1) m1 + 6) 0 m1 q s1 (F w 706 = F v 706 ∧ szc v + 6 ≤ szc w ∧ ∃ Hp : List Nat, CHNc w Hp ce ∧ (∀ p, p ∈ Hp → szc v ≤ p ∧ p < szc w) ∧ ∀ z h m L, z ≤ h → 2 * h ≤ lo + 1 + 16 → NMc v w lv m → L.length ≤ o → (la = 1 → L = []) → SGc w (szc v) (szc w) q s1 (Hp.map (fun p => (p, (h + 1, m, L, 0, 0)))) z (if tt = 1 then h + 1 else h) m L 0 0 (if tt = 1 then some (h, m, L, 0, 0) else none)) → OK K (F1 w (I ce))) :
    OK K (bnd (hm_Co_put N v 31) (fun u38 _ => bnd (hm_Co_put N u38 (I tt)) (fun u4 _ => bnd (hm_Co_put N u4 32) (fun u10 _ => bnd (hm_Co_hook N u10 0) (fun u13 r13 => ck (inb (I ((n : Nat) : Int)) 8016) (bnd (S.2.2.1 u13 (u13.2.2.1 19 (I ((n : Nat) : Int)).toNatClampNeg) (-2) 33 (I ((la : Nat) : Int))) (fun u20 r20 => bnd (hm_Co_put N u20 34) (fun u22 _ => bnd (hm_Co_put N u22 (u4.1 441)) (fun u25 _ => bnd (hm_Co_arrive N u25 r13) (fun u28 _ => F1 u28 r20)))))))))) := by
  have hcs := CMP_c hv
  have cv := hv.1
  have i1 : inb (I ((n : Nat) : Int)) 8016 = true := (I_inb (by omega) (by omega)).mpr ⟨by omega, by omega⟩
  have gp := OR_hd (PP_bd f o 1) hr
  refine put_1 (x := 31) cv.1 ⟨by decide, by decide⟩ (fun w1 e1 => put_B (x := tt) cv.1.1 e1 ⟨by omega, by omega⟩ (fun w2 e2 => put_B (x := 32) cv.1.1 e2 ⟨by decide, by decide⟩ (fun w3 e3 => hook_B (x := 0) cv.1.1 e3 ⟨by decide, by decide⟩ (fun v4 e4 => ?_))))
  have k4 := EMc.km cv e4
  have c4 := k4.2.1
  have e46 : F v4 706 = F v 706 := congrArg _ (e4.1.1 706 (by simp))
  rw [i1, ck_t, tnI (n := n) rfl (by omega), I_A (k := 19), k4.1.A (j := 19) (by simp), e19, ok_bnd]
  have hv4 : CMP v4 lv cc ps Q o (lo + 1) := CMP_k hv k4 (by rw [e46]; exact hv.2.2.2.2) (Nat.le_refl _)
  have h124 : F v4 712 = 0 ∨ F v4 714 < 1000000000 := by
    rcases h12 with z | z
    · exact Or.inl (by rw [k4.2.2.2.2.2.1.1]; exact z)
    · have := k4.2.2.2.1
      exact Or.inr (by omega)
  refine ok_mono (hPa f kk v4 lv cc Q ps mm (lo + 1) m1 a b q s1 la (-2) 33 hf hv4 h124 (OR_k (PP_k k4.1) (PP_bd f o 1) hr (KN_m k4.1)) hb hh hQ hla (Or.inr (Or.inr ⟨rfl, rfl, rfl⟩))) (fun v5 r20 h5 => ?_)
  obtain ⟨ce, rfl, hce, p5⟩ := h5
  have c5 := p5.1.2.1
  have c2r := (EMc.km cv e2).2.1.1
  refine put_1 (x := 34) c5.1 ⟨by decide, by decide⟩ (fun w5 e5 => ?_)
  rw [I_F (k := 441)]
  refine put_B (x := F w2 441) c5.1.1 e5 ⟨by omega, by omega⟩ (fun v6 e6 => ?_)
  have c4r := c4.1
  have k6 := EMc.km c5 e6
  have c6 := k6.2.1
  rw [ok_bnd]
  refine ok_mono (arrive_ok (N := N) (u := v6) (c := F v4 441 - 1) ⟨by omega, by omega⟩ (by omega)) (fun w _ hw => ?_)
  refine kk2 w ce hce ?_
  have e66 : F v6 706 = F v5 706 := congrArg _ (e6.1.1 706 (by simp))
  have q1 := PC_seq (Y := (szc v4 = szc v + 4 ∧ A v5 23 (szc v) = 31 ∧ A v5 23 (szc v + 1) = tt ∧ A v5 23 (szc v + 2) = 32 ∧ A v5 23 (szc v + 3) = 0) ∧ PTYc v4 v5 lv (lo + 1) q s1 o 33 (la = 1) ce) (PC_em (hi := m1) (q := q) cv e4) p5 (Nat.le_refl _) (Nat.le_refl _) (by omega) (fun gd o1 o2 y1 y2 => by
    have s4 : szc v4 = szc v + 4 := y1.1
    have lt : ∀ j, j < 4 → A v5 23 (szc v + j) = A v4 23 (szc v + j) := fun j hj => o2.1 _ (by
      have h5 : (F v4 441).toNat = szc v + 4 := s4
      omega)
    exact ⟨⟨s4, (lt 0 (by omega)).trans (y1.2 0 (by simp)), (lt 1 (by omega)).trans (y1.2 1 (by simp)), (lt 2 (by omega)).trans (y1.2 2 (by simp)), (lt 3 (by omega)).trans (y1.2 3 (by simp))⟩, y2⟩)
  have q2 := PC_seq (Y := ((szc v4 = szc v + 4 ∧ A v6 23 (szc v) = 31 ∧ A v6 23 (szc v + 1) = tt ∧ A v6 23 (szc v + 2) = 32 ∧ A v6 23 (szc v + 3) = 0) ∧ PTYc v4 v5 lv (lo + 1) q s1 o 33 (la = 1) ce) ∧ (szc v6 = szc v5 + 2 ∧ A v6 23 (szc v5) = 34 ∧ A v6 23 (szc v5 + 1) = ((szc v + 2 : Nat) : Int)) ∧ OLQ v5 v6 s1 s1 ∧ GDc v6 m1 s1) q1 (PC_em (hi := m1) (q := s1) c5 e6) (Nat.le_refl _) (by omega) (Nat.le_refl _) (fun gd o1 o2 y1 y2 => by
    have s4 := y1.1.1
    have le := szc_le c4 p5.1
    have cc5 := c5.1
    have lt : ∀ j, j < 4 → A v6 23 (szc v + j) = A v5 23 (szc v + j) := fun j hj => o2.1 _ (by
      have h5 : szc v + 4 ≤ (F v5 441).toNat := by rw [← s4]; exact le
      omega)
    refine ⟨⟨⟨s4, (lt 0 (by omega)).trans y1.1.2.1, (lt 1 (by omega)).trans y1.1.2.2.1, (lt 2 (by omega)).trans y1.1.2.2.2.1, (lt 3 (by omega)).trans y1.1.2.2.2.2⟩, y1.2⟩, ⟨y2.1, y2.2 0 (by simp), ?_⟩, o2, gd⟩
    have : A v6 23 (szc v5 + 1) = F w2 441 := y2.2 1 (by simp)
    rw [this]
    have m1 := p5.1.2.2.1
    have m2 := k6.2.2.1
    have g4 := gd.2.2.1
    have x4 : F v4 441 = F v 441 + 4 := (e4.2.2.2 (by omega)).1
    have x2l : F w2 441 < 24000 := by have := e2.2.1.2.2; have e2l : (([31] ++ [tt]).length : Int) = 2 := rfl; omega
    have x2 : F w2 441 = F v 441 + 2 := (e2.2.2.2 x2l).1
    have cvr := cv.1
    rw [x2]
    show F v 441 + 2 = (((F v 441).toNat + 2 : Nat) : Int)
    omega)
  have e41 : A w 41 lv = A v6 41 lv := by show (w.2.2.1 41 lv).toInt = _; rw [hw.1.2.2.1 41 (by simp)]; rfl
  have esw : szc w = szc v6 := by
    show (F w 441).toNat = (F v6 441).toNat
    rw [show F w 441 = F v6 441 from congrArg _ (hw.1.1 441 (by simp))]
  have e6w : F w 706 = F v6 706 := congrArg _ (hw.1.1 706 (by simp))
  have cvr := cv.1
  have c441 : szc v4 = szc v + 4 → F v4 441 - 1 = ((szc v + 3 : Nat) : Int) := fun s4 => by
    have h5 : (F v4 441).toNat = szc v + 4 := s4
    omega
  have arr : szc v4 = szc v + 4 → szc v4 ≤ szc v5 → A v6 23 (szc v + 3) = 0 → GDc v6 m1 s1 → (∀ p, p ∈ [szc v + 3] → A w 23 p = F v6 441) ∧ ∀ j, j ∉ [szc v + 3] → A w 23 j = A v6 23 j := fun s4 s5 z gd => by
    have g4 := gd.2.2.1
    have m2 := k6.2.2.1
    have h5 : szc v + 4 ≤ (F v5 441).toNat := by rw [← s4]; exact s5
    exact hw.2 [szc v + 3] ⟨c441 s4, ⟨by omega, by omega⟩, fun q hq => absurd hq (by simp), z⟩
  refine PC_w (PC_arr (Y1 := F w 706 = F v 706 ∧ szc v + 6 ≤ szc w ∧ ∃ Hp : List Nat, CHNc w Hp ce ∧ (∀ p, p ∈ Hp → szc v ≤ p ∧ p < szc w) ∧ ∀ z h m L, z ≤ h → 2 * h ≤ lo + 1 + 16 → NMc v w lv m → L.length ≤ o → (la = 1 → L = []) → SGc w (szc v) (szc w) q s1 (Hp.map (fun p => (p, (h + 1, m, L, 0, 0)))) z (if tt = 1 then h + 1 else h) m L 0 0 (if tt = 1 then some (h, m, L, 0, 0) else none)) q2 hw.1 (fun gv y j hj => ?_) (fun gw gv y => ?_)) (by simp; omega) (by omega) (Nat.le_refl _) (fun _ z => z)
  · obtain ⟨⟨⟨s4, -, -, -, w3⟩, -⟩, -, -, gd⟩ := y
    refine (arr s4 (szc_le c4 p5.1) w3 gd).2 j (fun hj2 => ?_)
    simp only [List.mem_singleton] at hj2
    have : j = (F v 441).toNat + 3 := hj2
    omega
  · obtain ⟨⟨⟨s4, w0, w1w, w2w, w3⟩, e56, Hp, ch, hp, ty⟩, ⟨s6, w6, w7⟩, o6, gd⟩ := y
    have le5 := szc_le c4 p5.1
    have ar := arr s4 le5 w3 gd
    have l15 := gd.2.2.2.1
    refine ⟨e6w.trans (e66.trans (e56.trans e46)), by rw [esw, s6]; omega, Hp, CHNc_k (fun p hp2 => ?_) ch, fun p hp2 => ?_, fun z h m L hz h2 nm hL hLa => ?_⟩
    · have := hp p hp2
      rw [ar.2 p (by simp; omega)]
      have h5 : p < (F v5 441).toNat := this.2
      exact o6.1 p (by have := c5.1; omega)
    · have := hp p hp2
      exact ⟨by omega, by rw [esw, s6]; omega⟩
    · obtain ⟨nm1, nm2⟩ := nm
      have a41 := k6.2.2.2.2.2.2.2.2
      have a40 := k4.2.2.2.2.2.2.1 lv (Nat.le_refl _)
      have c58 := c5.2.2.2.2.2.2.2.2
      have a40b := p5.1.2.2.2.2.2.2.1 lv (Nat.le_refl _)
      have hm40 : m ≤ 40 := by omega
      have i1 := ty z h m L (szc v + 2) ⟨by show z + 0 ≤ h; omega, h2, ⟨by rw [a40, e46]; exact nm1, by rw [a40, e46]; omega⟩, hL, hLa, fun _ => by omega, fun z => absurd rfl z⟩
      have ed : h - ddc 33 + 1 = h + 1 := by show h - 0 + 1 = h + 1; omega
      rw [ed, s4] at i1
      have j1 := SG_kw c5 i1 k6.1 o6 (Nat.le_refl _) (Or.inl (Nat.le_refl _))
      have j2 : SGc w (szc v + 4) (szc v5) q s1 (Hp.map (fun p => (p, (h + 1, m, L, 0, 0)))) z h m L 0 (szc v + 2) (some (h, m, L, 0, szc v + 2)) := SG_k j1 (fun j j3 _ _ => ar.2 j (by simp; omega)) (TBL_23 hw.1)
      have wd : ∀ j, j ≠ szc v + 3 → A w 23 j = A v6 23 j := fun j hj => ar.2 j (by simp; exact hj)
      rw [esw, s6]
      refine SG_rcv (n := h) (b := szc v5) hz (by split <;> omega) hm40 (by rw [wd _ (by omega)]; exact w0) ?_ (by rw [wd _ (by omega)]; exact w2w) j2 (by rw [wd _ (by omega)]; exact w6) (by rw [wd _ (by omega)]; exact w7)
      rw [wd _ (by omega), w1w]
      rcases ht with rfl | rfl
      · exact Or.inr ⟨rfl, by simp⟩
      · refine Or.inl ⟨rfl, by simp, ?_, by simp⟩
        rw [ar.1 (szc v + 3) (by simp)]
        have h5 : (F v6 441).toNat = szc v5 + 2 := s6
        have := c6.1
        omega
end
end
section
set_option maxRecDepth 100000
section
variable {u v w : MS} {N lv t hi lo o q r s c h m g x d a b k n f Q z la cl : Nat} {ps : Nat → Nat} {S : SF_Cm_fun}
theorem receiveC_ok (hE : ExS N S (o + 1) 3) (hPa : PaS N S o 1) (hB : BoS N S (o + 2)) (hN : 30000 ≤ N) {S2 : SF_Cm_fun} (h2 : S2.2.1 = hm_Cm_receive N S) : ReS N S2 o cl := by
  intro f u lv c Q ps n lo hi a b q r la hf hu h12 hX e16 hb hh hQ hla
  rw [h2]
  cases f with
  | zero => exact hX.elim
  | succ f =>
  obtain ⟨hd, htk, ho, hX⟩ := hX
  unfold HDc at hd
  have hcs := CMP_c hu
  have cu := hu.1
  obtain ⟨k, m, m1, c1, s1, e19, hr0, hX⟩ : ∃ k m m1 c1 s1 : Nat, A u 19 n = ((m : Nat) : Int) ∧ ORc u 1 (CSPc u (PAc u f) (XPc u f (o + 2) 3) (XPc u f (o + 1) 3)) k m (lo + 1) m1 a c1 q s1 ∧ ((A u 18 n = 0 ∧ A u 20 n = 0 ∧ 1 ≤ k ∧ hi = m1 + 1 ∧ s1 = r ∧ c1 < n) ∨ ∃ x m2 c2 s2 kb mb c3 : Nat, 1 ≤ x ∧ A u 18 n = ((x : Nat) : Int) ∧ XPc u f (o + 1) 3 x (m1 + 1) m2 c1 c2 s1 s2 ∧ A u 20 n = ((mb : Nat) : Int) ∧ RWc u 1 (XPc u f (o + 2) 3) kb mb (m2 + 1) (hi - 1) c2 c3 s2 r ∧ c3 < n) := by
    rcases hX with ⟨⟨l16, l6, -⟩, -⟩ | ⟨e, -⟩ | ⟨e, -⟩ | ⟨e, -⟩ | ⟨e, -⟩ | ⟨e, -⟩ | ⟨e, -⟩ | ⟨e, hx⟩ | ⟨e, -⟩ | ⟨e, -⟩ | ⟨e, -⟩ | ⟨e, -⟩ | ⟨e, -⟩ | ⟨e, -⟩ | ⟨e, -⟩ | ⟨e, -⟩ | ⟨e, -⟩
    all_goals first | exact hx | (exfalso; omega)
  have hr := OR_mp (fun n lo hi a b q r => CSP_pp (n := n) (lo := lo) (hi := hi) (a := a) (b := b) (q := q) (r := r)) hr0
  have gp := OR_hd (PP_bd f o 1) hr
  have i1 : inb (I ((n : Nat) : Int)) 8016 = true := (I_inb (by omega) (by omega)).mpr ⟨by omega, by omega⟩
  have hu6 := hu.2.2.2.2
  have c40 := cu.2.2.2.2.2.2.2.1
  have g0 : ∀ (w : MS), KMc u w lv → GDc w hi r → F u 712 = 0 := fun w kw gd => by
    rcases h12 with h12 | h12
    · exact h12
    · have := kw.2.2.2.1
      have := gd.1
      omega
  unfold hm_Cm_receive hb_Cm_receive_0
  rw [i1, ck_t, tnI (n := n) rfl (by omega), I_A (k := 18), I_F (k := 706)]
  rcases hX with ⟨e18, e20, hk1, hhi, hs1, hcn⟩ | ⟨x, m2, c2, s2, kb, mb, c3, hx1, e18, hx, e20, hrb, hcn⟩
  · rw [e18]
    refine k_c (y := 0) rfl ⟨by decide, by decide⟩ ⟨by decide, by decide⟩ (fun _ => ?_) (fun z => absurd rfl z)
    show OK _ (hb_Cm_receive_48 N S () u (I ((n : Nat) : Int)) (I ((la : Nat) : Int)) (I (F u 706)) 0)
    refine recv1 (tt := 0) (F1 := fun u28 r20 => hb_Cm_receive_173 N S () u28 r20) (la := la) (lo := lo) (m1 := m1) (lv := lv) (cc := c) (ps := ps) (Q := Q) (f := f) (q := q) (s1 := s1) hPa hN (by omega) (CMP_m hu (by omega) (Nat.le_refl _)) h12 (by omega) e19 hr (by omega) (by omega) (by omega) hla (Or.inl rfl) (fun v ce hce pv => ?_)
    show OK _ (hb_Cm_receive_173 N S () v (I ce))
    unfold hb_Cm_receive_173
    rw [ok_bnd]
    refine ok_mono (arrive_ok (N := N) (u := v) hce (by omega)) (fun w _ hw => ok_some.mpr ?_)
    have cv := pv.1.2.1
    have wb := WB_1 hcs.1 (lo := lo) (lo2 := lo + 1) (hi2 := m1) (hi := hi) (by omega) (by omega) (by omega) hh
    have e41 : A w 41 lv = A v 41 lv := by show (w.2.2.1 41 lv).toInt = _; rw [hw.1.2.2.1 41 (by simp)]; rfl
    have e6w : F w 706 = F v 706 := congrArg _ (hw.1.1 706 (by simp))
    subst hs1
    have p2 := PC_arr (Y1 := TYX u w lv lo q s1 o (la = 1) 1) (PC_w (hi := hi) pv (Int.le_refl _) (Nat.le_refl _) (by omega) (fun gd y => (⟨y, gd⟩ : _ ∧ GDc v hi s1))) hw.1 (fun gv y j hj => ?_) (fun gw gv y => ?_)
    · exact PC_w p2 (by omega) (by omega) (Nat.le_refl _) (fun _ z => z)
    · obtain ⟨⟨-, -, Hp, ch, hp, -⟩, -⟩ := y
      refine (hw.2 Hp ch).2 j (fun hj2 => ?_)
      have : (F u 441).toNat ≤ j := (hp j hj2).1
      omega
    · obtain ⟨⟨e6, sl, Hp, ch, hp, ty⟩, gd⟩ := y
      have ar := hw.2 Hp ch
      intro h m L g x p
      have u12 := g0 v pv.1 gd
      have gg : g = 0 := by
        by_cases z : g = 0
        · exact z
        · have := p.2.2.2.2.1.mp z
          rw [u12] at this
          exact absurd this (by decide)
      have xx := p.2.2.2.2.2 gg
      subst gg xx
      refine ⟨fun z => absurd rfl z, ?_⟩
      have nm : NMc u v lv m := ⟨p.2.1.1, by have := p.2.1.2; omega⟩
      have i2 := ty h h m L (Nat.le_refl _) (by have := p.1; omega) nm p.2.2.1 p.2.2.2.1
      rw [show knc u w = 0 by show (F w 706 - F u 706).toNat = 0; omega]
      rw [if_neg (by decide), if_neg (by decide), ← List.append_nil (Hp.map _)] at i2
      refine SG_arc (lv := lv) (H2 := []) (Hp := Hp) cv hw.1 ar i2 (by omega) (Or.inl rfl) (fun p t hp => ?_) (fun p hp => ⟨_, List.mem_map.mpr ⟨p, hp, rfl⟩⟩) (fun p t t2 _ hp => by simp at hp)
      obtain ⟨p2, hp2, h5⟩ := List.mem_map.mp hp
      injection h5 with h6 h7
      exact ⟨h7.symm, h6 ▸ hp2⟩
  · rw [e18]
    have gx := XP_bd f (o + 1) 3 _ _ _ _ _ _ _ hx
    have gb := (RW_hd (XP_bd f (o + 2) 3) hrb).1
    unfold HDc at gx gb
    refine k_c (y := 0) rfl ⟨by omega, by omega⟩ ⟨by decide, by decide⟩ (fun z => absurd z (by omega)) (fun _ => ?_)
    unfold hb_Cm_receive_22
    refine ok_br.mpr ⟨fun z => absurd z (by decide), fun _ => ?_⟩
    rw [i1, ck_t, tnI (n := n) rfl (by omega), I_A (k := 18), e18, ok_bnd]
    refine ok_mono (hE f u lv c Q ps x (m1 + 1) m2 c1 c2 s1 s2 0 (by omega) (CMP_m hu (by omega) (by omega)) hx (by omega) (by omega) (by omega) (by omega)) (fun v1 _ p1 => ?_)
    have c1v := p1.1.2.1
    have e40 := p1.1.2.2.2.2.2.2.1 lv (Nat.le_refl _)
    have b61 := p1.2.1
    refine forget_B c1v (by omega) (by omega) (fun v2 l2 k2 e26 f2 em2 hl2 => ?_)
    have pA := PC_fgt (Y1 := (F v2 706 = F u 706) ∧ ∀ h m L, 2 * h ≤ lo + 16 → NMc u v2 lv m → L.length ≤ o → F u 712 = 0 → SGc v2 (szc u) (szc v2) s1 s2 [] h h m L 0 0 (some (h + 1, m, L, 0, 0))) k2 e26 f2 em2 hl2 p1 (Int.le_refl _) (by omega) (fun gw gv ol y fg => ⟨e26, fun h m L h2 nm hL u12 => by
      obtain ⟨nm1, nm2⟩ := nm
      have l15 := gw.2.2.2.1
      have a41 := k2.2.2.2.2.2.2.2.2
      obtain ⟨-, i2⟩ := y h m L 0 0 ⟨by omega, ⟨nm1, by omega⟩, by omega, fun z => absurd z (by decide), ⟨fun z => absurd rfl z, fun z => by rw [u12] at z; exact absurd z (by decide)⟩, fun _ => rfl⟩
      have kn : ((knc u v1 : Nat) : Int) = F v1 706 - F u 706 := by show (((F v1 706 - F u 706).toNat : Nat) : Int) = _; omega
      have c8 := c1v.2.2.2.2.2.2.2.2
      have i3 := fg h (h + 1) (m + knc u v1) L 0 0 (by omega) (by omega) (by omega) (by omega) (Or.inr rfl)
      rw [show m + knc u v1 - (F v1 706 - F u 706).toNat = m by omega] at i3
      have j1 := SG_kw c1v i2 k2.1 ol (Nat.le_refl _) (Or.inl (Nat.le_refl _))
      have j := SG_seq j1 i3 (by omega) (fun z => absurd rfl z)
      rw [List.append_nil] at j
      exact j⟩)
    have c2v := k2.2.1
    have ku2 := pA.1
    have h122 : F v2 712 = 0 ∨ F v2 714 < 1000000000 := by
      rcases h12 with z | z
      · exact Or.inl (by rw [ku2.2.2.2.2.2.1.1]; exact z)
      · have := ku2.2.2.2.1
        exact Or.inr (by omega)
    have hv2 : CMP v2 lv c ps Q o (lo + 1) := CMP_k hu ku2 (by omega) (Nat.le_refl _)
    show OK _ (hb_Cm_receive_48 N S () v2 (I ((n : Nat) : Int)) (I ((la : Nat) : Int)) (I (F u 706)) 1)
    refine recv1 (tt := 1) (F1 := fun u28 r20 => ck (inb (I ((n : Nat) : Int)) 8016) (bnd (S.2.2.2.1 u28 (u28.2.2.1 20 (I ((n : Nat) : Int)).toNatClampNeg) (I ((la : Nat) : Int))) (fun u35 _ => bnd (hm_Cm_forget N u35 (I (F u 706))) (fun u36 _ => hb_Cm_receive_173 N S () u36 r20)))) (la := la) (lo := lo) (m1 := m1) (lv := lv) (cc := c) (ps := ps) (Q := Q) (f := f) (q := q) (s1 := s1) hPa hN (by omega) hv2 h122 (by omega) (by rw [ku2.1.A (by simp)]; exact e19) (OR_k (PP_k ku2.1) (PP_bd f o 1) hr (KN_m ku2.1)) (by omega) (by omega) (by omega) hla (Or.inr rfl) (fun v7 ce hce p7 => ?_)
    show OK _ (ck (inb (I ((n : Nat) : Int)) 8016) (bnd (S.2.2.2.1 v7 (v7.2.2.1 20 (I ((n : Nat) : Int)).toNatClampNeg) (I ((la : Nat) : Int))) (fun u35 _ => bnd (hm_Cm_forget N u35 (I (F u 706))) (fun u36 _ => hb_Cm_receive_173 N S () u36 (I ce)))))
    have c7 := p7.1.2.1
    have ku7 := KMc.tr ku2 p7.1
    rw [i1, ck_t, tnI (n := n) rfl (by omega), I_A (k := 20), ku7.1.A (j := 20) (by simp), e20, ok_bnd]
    have p76 := p7.2.1
    have hv7 : CMP v7 lv c ps Q (o + 2) (m2 + 1) := CMP_k hu ku7 (by omega) (by omega)
    refine ok_mono (hB f kb v7 lv c Q ps mb (m2 + 1) (hi - 1) c2 c3 s2 r la (by omega) hv7 (RW_k (XP_k (Nat.le_refl _) (Nat.le_refl _)) (XP_bd f (o + 2) 3) hrb (KN_m ku7.1)) (by omega) (by omega) hQ hla) (fun v8 _ p8 => ?_)
    have c8v := p8.1.2.1
    have p86 := p8.2.1
    have q1 := PC_seqw (hi := m2) (q := q) (r := s2) (Y := ((F v2 706 = F u 706) ∧ ∀ h m L, 2 * h ≤ lo + 16 → NMc u v2 lv m → L.length ≤ o → F u 712 = 0 → SGc v2 (szc u) (szc v2) s1 s2 [] h h m L 0 0 (some (h + 1, m, L, 0, 0))) ∧ OLQ v2 v7 q s1 ∧ (F v7 706 = F v2 706 ∧ szc v2 + 6 ≤ szc v7 ∧ ∃ Hp : List Nat, CHNc v7 Hp ce ∧ (∀ p, p ∈ Hp → szc v2 ≤ p ∧ p < szc v7) ∧ ∀ z h m L, z ≤ h → 2 * h ≤ lo + 1 + 16 → NMc v2 v7 lv m → L.length ≤ o → (la = 1 → L = []) → SGc v7 (szc v2) (szc v7) q s1 (Hp.map (fun p => (p, (h + 1, m, L, 0, 0)))) z (h + 1) m L 0 0 (some (h, m, L, 0, 0)))) pA (PC_w (hi := m2) p7 (Int.le_refl _) (Nat.le_refl _) (by omega) (fun _ y => y)) (Nat.le_refl _) ⟨by omega, by omega⟩ ⟨by omega, by omega⟩ (fun gd o1 o2 y1 y2 => ⟨y1, o2, y2⟩)
    have q2 := PC_seq (Y := (((F v2 706 = F u 706) ∧ ∀ h m L, 2 * h ≤ lo + 16 → NMc u v2 lv m → L.length ≤ o → F u 712 = 0 → SGc v2 (szc u) (szc v2) s1 s2 [] h h m L 0 0 (some (h + 1, m, L, 0, 0))) ∧ OLQ v2 v7 q s1 ∧ (F v7 706 = F v2 706 ∧ szc v2 + 6 ≤ szc v7 ∧ ∃ Hp : List Nat, CHNc v7 Hp ce ∧ (∀ p, p ∈ Hp → szc v2 ≤ p ∧ p < szc v7) ∧ ∀ z h m L, z ≤ h → 2 * h ≤ lo + 1 + 16 → NMc v2 v7 lv m → L.length ≤ o → (la = 1 → L = []) → SGc v7 (szc v2) (szc v7) q s1 (Hp.map (fun p => (p, (h + 1, m, L, 0, 0)))) z (h + 1) m L 0 0 (some (h, m, L, 0, 0)))) ∧ OLQ v7 v8 s2 r ∧ TYX v7 v8 lv (m2 + 1) s2 r (o + 2) (la = 1) 1) q1 p8 (by omega) (by omega) (by omega) (fun gd o1 o2 y1 y2 => ⟨y1, o2, y2⟩)
    have e40b := q2.1.2.2.2.2.2.2.1 lv (Nat.le_refl _)
    refine forget_B c8v (by omega) (by omega) (fun v9 l9 k9 e96 f9 em9 hl9 => ?_)
    have q3 := PC_fgt (Y1 := ((((F v2 706 = F u 706) ∧ ∀ h m L, 2 * h ≤ lo + 16 → NMc u v2 lv m → L.length ≤ o → F u 712 = 0 → SGc v2 (szc u) (szc v2) s1 s2 [] h h m L 0 0 (some (h + 1, m, L, 0, 0))) ∧ OLQ v2 v7 q s1 ∧ (F v7 706 = F v2 706 ∧ szc v2 + 6 ≤ szc v7 ∧ ∃ Hp : List Nat, CHNc v7 Hp ce ∧ (∀ p, p ∈ Hp → szc v2 ≤ p ∧ p < szc v7) ∧ ∀ z h m L, z ≤ h → 2 * h ≤ lo + 1 + 16 → NMc v2 v7 lv m → L.length ≤ o → (la = 1 → L = []) → SGc v7 (szc v2) (szc v7) q s1 (Hp.map (fun p => (p, (h + 1, m, L, 0, 0)))) z (h + 1) m L 0 0 (some (h, m, L, 0, 0)))) ∧ OLQ v7 v8 s2 r ∧ TYX v7 v8 lv (m2 + 1) s2 r (o + 2) (la = 1) 1) ∧ OLQ v8 v9 r r ∧ (∀ z h m L g x, z ≤ h → h ≤ 1090 → m ≤ 40 → (F v8 706 - F u 706).toNat ≤ m → ((F v8 706 - F u 706).toNat = 0 ∨ g = 0) → SGc v9 (szc v8) (szc v9) r r [] z h m L g x (some (h, m - (F v8 706 - F u 706).toNat, L, g, x))) ∧ GDc v9 (hi - 1) r) k9 e96 f9 em9 hl9 q2 (Int.le_refl _) (by omega) (fun gw gv ol y fg => ⟨y, ol, fg, gw⟩)
    have c9v := k9.2.1
    unfold hb_Cm_receive_173
    rw [ok_bnd]
    refine ok_mono (arrive_ok (N := N) (u := v9) hce (by omega)) (fun w _ hw => ok_some.mpr ?_)
    have k9w := KM_23 c9v hw.1
    have e41 : A w 41 lv = A v9 41 lv := by show (w.2.2.1 41 lv).toInt = _; rw [hw.1.2.2.1 41 (by simp)]; rfl
    have e6w : F w 706 = F u 706 := (congrArg _ (hw.1.1 706 (by simp)) : F w 706 = F v9 706).trans e96
    have wb : WBc ps (m1 + 1) m2 + WBc ps (lo + 1) m1 + WBc ps (m2 + 1) (hi - 1) + 36 ≤ WBc ps lo hi := by
      have w1 := WB_2 hcs.1 (lo := lo + 1) (m := m1) (lo2 := m1 + 1) (hi := m2) (by omega) (by omega) (by omega) (by omega)
      have w2 := WB_2 hcs.1 (lo := lo + 1) (m := m2) (lo2 := m2 + 1) (hi := hi - 1) (by omega) (by omega) (by omega) (by omega)
      have w3 := WB_1 hcs.1 (lo := lo) (lo2 := lo + 1) (hi2 := hi - 1) (hi := hi) (by omega) (by omega) (by omega) hh
      omega
    have chn : ∀ Hp : List Nat, CHNc v7 Hp ce → (∀ p, p ∈ Hp → szc v2 ≤ p ∧ p < szc v7) → OLQ v7 v8 s2 r → OLQ v8 v9 r r → CHNc v9 Hp ce := fun Hp c1 c2 o1 o2 => CHNc_k (fun p hp => by
      have hp2 : p < (F v7 441).toNat := (c2 p hp).2
      have := c7.1
      have f1 := p8.1.2.2.1
      rw [o2.1 p (by omega), o1.1 p (by omega)]) c1
    have u2 := szc_le cu ku2
    have p9 := PC_arr (t := 0) (Y1 := TYX u w lv lo q r o (la = 1) 1) (⟨q3.1, by omega, q3.2.2.1, q3.2.2.2⟩ : PCQ u v9 lv _ 0 (hi - 1) q r _) hw.1 (fun gv y j hj => ?_) (fun gw gv y => ?_)
    · exact PC_w p9 (by omega) (by omega) (by omega) (fun _ z => z)
    · obtain ⟨⟨⟨-, -, -, -, Hp, ch, hp, -⟩, o1, -⟩, o2, -⟩ := y
      refine (hw.2 Hp (chn Hp ch hp o1 o2)).2 j (fun hj2 => ?_)
      have h5 := (hp j hj2).1
      have : (F u 441).toNat ≤ szc v2 := u2
      omega
    · obtain ⟨⟨⟨⟨-, tA⟩, oR, -, sl, Hp, ch, hp, tR⟩, o1, tB⟩, o2, fg, gd⟩ := y
      have ar := hw.2 Hp (chn Hp ch hp o1 o2)
      intro h m L g x p
      have u12 : F u 712 = 0 := by
        rcases h12 with h12 | h12
        · exact h12
        · have := q3.1.2.2.2.1
          have := gd.1
          omega
      have gg : g = 0 := by
        by_cases z : g = 0
        · exact z
        · have := p.2.2.2.2.1.mp z
          rw [u12] at this
          exact absurd this (by decide)
      have xx := p.2.2.2.2.2 gg
      subst gg xx
      refine ⟨fun z => absurd rfl z, ?_⟩
      have l15 := gd.2.2.2.1
      have n1 := p.2.1.1
      have n2 := p.2.1.2
      have hpl := p.1
      have a41a := p7.1.2.2.2.2.2.2.2.2
      have a41b := p8.1.2.2.2.2.2.2.2.2
      have a41c := k9.2.2.2.2.2.2.2.2
      have a40 := ku2.2.2.2.2.2.2.1 lv (Nat.le_refl _)
      have a40c := ku7.2.2.2.2.2.2.1 lv (Nat.le_refl _)
      have c88 := c8v.2.2.2.2.2.2.2.2
      have kn : ((knc v7 v8 : Nat) : Int) = F v8 706 - F v7 706 := by show (((F v8 706 - F v7 706).toNat : Nat) : Int) = _; omega
      have iA := tA h m L hpl ⟨n1, by omega⟩ p.2.2.1 u12
      have iR := tR h h m L (Nat.le_refl _) (by omega) ⟨by rw [a40, e26]; exact n1, by rw [a40, e26]; omega⟩ p.2.2.1 p.2.2.2.1
      obtain ⟨-, iB⟩ := tB h m L 0 0 ⟨by omega, ⟨by rw [a40c]; omega, by rw [a40c]; omega⟩, by have := p.2.2.1; omega, p.2.2.2.1, ⟨fun z => absurd rfl z, fun z => by rw [ku7.2.2.2.2.2.1.1, u12] at z; exact absurd z (by decide)⟩, fun _ => rfl⟩
      have iF := fg h (h + 1) (m + knc v7 v8) L 0 0 (by omega) (by omega) (by omega) (by omega) (Or.inr rfl)
      rw [show m + knc v7 v8 - (F v8 706 - F u 706).toNat = m by omega] at iF
      have jA := SG_kw c2v iA p7.1.1 oR (Nat.le_refl _) (Or.inr (Nat.le_refl _))
      have jAR := SG_seqr jA iR
      have jAR' := SG_kw c7 jAR p8.1.1 o1 (Nat.le_refl _) (Or.inl (Nat.le_refl _))
      have jB := SG_seq jAR' iB (by omega) (fun z => absurd rfl z)
      have jB' := SG_kw c8v jB k9.1 o2 (Nat.le_refl _) (Or.inl (Nat.le_refl _))
      have jF := SG_seq jB' iF (by omega) (fun z => absurd rfl z)
      rw [List.nil_append, List.append_nil] at jF
      rw [show knc u w = 0 by show (F w 706 - F u 706).toNat = 0; omega]
      have l9 := szc_le c7 p8.1
      have l10 := szc_le c8v k9
      refine SG_arc (lv := lv) (H2 := []) (Hp := Hp) c9v hw.1 ar jF (by omega) (Or.inr rfl) (fun p t hp => ?_) (fun p hp => ⟨_, List.mem_map.mpr ⟨p, hp, rfl⟩⟩) (fun p t t2 _ hp => by simp at hp)
      obtain ⟨p2, hp2, h5⟩ := List.mem_map.mp hp
      injection h5 with h6 h7
      exact ⟨h7.symm, h6 ▸ hp2⟩
end
end
section
set_option maxRecDepth 100000
def FuS (N : Nat) (S : SF_Cm_fun) (o cl : Nat) : Prop := ∀ (f : Nat) (u : MS) (lv c Q : Nat) (ps : Nat → Nat) (n lo hi a b q r : Nat), f ≤ 120 → CMP u lv c ps Q o lo → F u 712 = 0 ∨ F u 714 < 1000000000 → XPc u f o cl n lo hi a b q r → A u 16 n = 12 → b ≤ 8000 → hi ≤ c → r ≤ Q → OK (fun w _ => PXS u w lv ps lo hi q r o False 1) (S.1 u (I ((n : Nat) : Int)))
section
variable {u v w : MS} {N lv t hi lo o q r s c h m g x d a b k n f Q z la cl : Nat} {ps : Nat → Nat} {S : SF_Cm_fun} {H : List (Nat × Tyc)} {oo : Option Tyc}
theorem SG_z0 (y : SGc u a b q r H 0 h m [] 0 x oo) : SGc u a b q r H z h m [] 0 x oo := by
  obtain ⟨z1, z2, z3, T0, z4, z5⟩ := y
  exact ⟨z1, z2, z3, T0, z4, fun v T h1 h2 h3 h4 h5 h6 => z5 v T h1 h2 h3 h4 h5 ⟨h6.1, h6.2.1, fun z => absurd rfl z, h6.2.2.2⟩⟩
theorem KM_32 (h : CVI u lv) (g : FR [] [] [32] [] u w) : KMc u w lv := by
  have eF : ∀ k, F w k = F u k := fun k => congrArg _ (g.1 k (by simp))
  have eA : ∀ r k, r ≠ 32 → A w r k = A u r k := fun r k hr => by show (w.2.2.1 r k).toInt = _; rw [g.2.2.1 r (by simp; exact hr)]; rfl
  obtain ⟨g1, g2, g3, g4, g5, g6, g7, g8, g9⟩ := h
  refine ⟨FR.mo g (by simp) (by simp) (by simp) (by simp), ⟨by rw [eF]; exact g1, by rw [eF]; exact g2, by rw [eF]; exact g3, by rw [eF, eF]; exact g4, by rw [eF]; exact g5, by rw [eF]; exact g6, fun j hj => by rw [eA 40 j (by decide), eA 41 j (by decide)]; exact g7 j hj, by rw [eF, eA 40 lv (by decide)]; exact g8, by rw [eF, eA 40 lv (by decide), eA 41 lv (by decide)]; exact g9⟩, by rw [eF]; omega, by rw [eF]; omega, fun z => by rw [eF] at z; exact z, ⟨eF _, eF _⟩, fun j _ => eA 40 j (by decide), fun j _ => eA 41 j (by decide), by rw [eA 41 lv (by decide)]; omega⟩
theorem KM_711 {y : Int} (h : CVI u lv) (hy : y = 0 ∨ y = 1) (h0 : y = 0 → F u 711 = 0) : KMc u (wi u 711 y) lv := by
  have hr : RG y := ⟨by omega, by omega⟩
  have eF : ∀ k, k ≠ 711 → F (wi u 711 y) k = F u k := fun k hk => by rw [F_wi hr.1 hr.2, if_neg hk]
  have e1 : F (wi u 711 y) 711 = y := by rw [F_wi hr.1 hr.2, if_pos rfl]
  obtain ⟨g1, g2, g3, g4, g5, g6, g7, g8, g9⟩ := h
  exact ⟨FR.wi FR.rf (by simp), ⟨by rw [eF 441 (by decide)]; exact g1, by rw [eF 706 (by decide)]; exact g2, by rw [eF 709 (by decide)]; exact g3, by rw [eF 712 (by decide), eF 713 (by decide)]; exact g4, by rw [eF 714 (by decide)]; exact g5, by rw [e1]; exact hy, g7, by rw [eF 706 (by decide)]; exact g8, by rw [eF 706 (by decide)]; exact g9⟩, by rw [eF 441 (by decide)]; omega, by rw [eF 714 (by decide)]; omega, fun z => h0 (by rw [e1] at z; exact z), ⟨eF _ (by decide), eF _ (by decide)⟩, fun _ _ => rfl, fun _ _ => rfl, Int.le_refl _⟩
theorem fun_in {P : Nat} {v1 w32 w40 w43 w48 x0 : MS} (cu : CVI u lv) (hl : lv ≤ 25) (k1 : EMc (wi u 712 0) v1 [18, 0]) (hk : k ≤ 6) (h32 : w32 = wa v1 30 P ((k : Nat) : Int)) (h40 : w40 = wa w32 31 P (F v1 441)) (h43 : w43 = wi w40 709 ((lv + 1 : Nat) : Int)) (h48 : w48 = wa w43 40 (lv + 1) (F u 706)) (hx : x0 = wa w48 41 (lv + 1) 0) : KMF u x0 ∧ CVI x0 (lv + 1) ∧ F x0 712 = 0 ∧ (F x0 706 = F u 706 ∧ F x0 441 = F v1 441 ∧ F x0 714 = F u 714 ∧ F x0 711 = F u 711 ∧ F x0 713 = F u 713) ∧ (A x0 40 (lv + 1) = F u 706 ∧ (∀ j, j ≠ lv + 1 → A x0 40 j = A u 40 j ∧ A x0 41 j = A u 41 j)) ∧ (A x0 30 P = ((k : Nat) : Int) ∧ A x0 31 P = F v1 441 ∧ (∀ pl, pl ≠ P → A x0 30 pl = A u 30 pl ∧ A x0 31 pl = A u 31 pl) ∧ ∀ pl, A x0 32 pl = A u 32 pl) ∧ ∀ j, A x0 23 j = A v1 23 j := by
  obtain ⟨g1, g2, g3, g4, g5, g6, g7, g8, g9⟩ := cu
  have f0 : ∀ j, j ≠ 712 → F (wi u 712 0) j = F u j := fun j hj => by rw [F_wi (by decide) (by decide), if_neg hj]
  have f02 : F (wi u 712 0) 712 = 0 := by rw [F_wi (by decide) (by decide), if_pos rfl]
  have fa : ∀ r j, A (wi u 712 0) r j = A u r j := fun _ _ => rfl
  have m0 : KMF u (wi u 712 0) := FR.wi FR.rf (by simp)
  generalize wi u 712 0 = u0 at k1 f0 f02 fa m0
  have f1 : ∀ j, j ≠ 712 → j ≠ 441 → F v1 j = F u j := fun j hj h4 => (congrArg _ (k1.1.1 j (by simp; exact h4)) : F v1 j = F u0 j).trans (f0 j hj)
  have f12 : F v1 712 = 0 := (congrArg _ (k1.1.1 712 (by simp)) : F v1 712 = F u0 712).trans f02
  have a1 : ∀ r j, r ≠ 23 → A v1 r j = A u r j := fun r j hr => by
    rw [← fa r j]
    show (v1.2.2.1 r j).toInt = _; rw [k1.1.2.2.1 r (by simp; exact hr)]; rfl
  have h441 := k1.2.1
  rw [f0 441 (by decide)] at h441
  have rl : RG ((lv + 1 : Nat) : Int) := ⟨by omega, by omega⟩
  have rk : RG ((k : Nat) : Int) := ⟨by omega, by omega⟩
  have r4 : RG (F v1 441) := FRG1 v1 441
  have r6 : RG (F u 706) := FRG1 u 706
  have m1 : KMF u v1 := FR.tr m0 (FR.mo k1.1 (by simp) (by simp) (by simp) (by simp))
  have km : KMF u x0 := by
    rw [hx, h48, h43, h40, h32]
    exact FR.wa (FR.wa (FR.wi (FR.wa (FR.wa m1 (by simp)) (by simp)) (by simp)) (by simp)) (by simp)
  have F40 : ∀ j, F w40 j = F v1 j := fun j => by rw [h40, F_wa, h32, F_wa]
  have xF : ∀ j, j ≠ 709 → F x0 j = F v1 j := fun j hj => by rw [hx, F_wa, h48, F_wa, h43, F_wi rl.1 rl.2, if_neg hj, F40]
  have x9 : F x0 709 = ((lv + 1 : Nat) : Int) := by rw [hx, F_wa, h48, F_wa, h43, F_wi rl.1 rl.2, if_pos rfl]
  have A43 : ∀ r j, A w43 r j = A w40 r j := fun r j => by rw [h43, A_wi]
  have A40 : ∀ r j, r ≠ 30 → r ≠ 31 → A w40 r j = A v1 r j := fun r j h0 h1 => by rw [h40, A_wa r4.1 r4.2, if_neg h1, h32, A_wa rk.1 rk.2, if_neg h0]
  have xA : ∀ r j, r ≠ 40 → r ≠ 41 → A x0 r j = A w40 r j := fun r j h0 h1 => by rw [hx, A_wa (by decide) (by decide), if_neg h1, h48, A_wa r6.1 r6.2, if_neg h0, A43]
  have x40 : ∀ j, A x0 40 j = if j = lv + 1 then F u 706 else A u 40 j := fun j => by
    rw [hx, A_wa (by decide) (by decide), if_neg (show ¬ (40 : Nat) = 41 by decide), h48, A_wa r6.1 r6.2, if_pos (show (40 : Nat) = 40 from rfl), A43, A40 40 j (by decide) (by decide), a1 40 j (by decide)]
  have x41 : ∀ j, A x0 41 j = if j = lv + 1 then 0 else A u 41 j := fun j => by
    rw [hx, A_wa (by decide) (by decide), if_pos (show (41 : Nat) = 41 from rfl), h48, A_wa r6.1 r6.2, if_neg (show ¬ (41 : Nat) = 40 by decide), A43, A40 41 j (by decide) (by decide), a1 41 j (by decide)]
  have y30 : ∀ j, A w40 30 j = if j = P then ((k : Nat) : Int) else A u 30 j := fun j => by
    rw [h40, A_wa r4.1 r4.2, if_neg (show ¬ (30 : Nat) = 31 by decide), h32, A_wa rk.1 rk.2, if_pos (show (30 : Nat) = 30 from rfl), a1 30 j (by decide)]
  have y31 : ∀ j, A w40 31 j = if j = P then F v1 441 else A u 31 j := fun j => by
    rw [h40, A_wa r4.1 r4.2, if_pos (show (31 : Nat) = 31 from rfl), h32, A_wa rk.1 rk.2, if_neg (show ¬ (31 : Nat) = 30 by decide), a1 31 j (by decide)]
  have e6 : F x0 706 = F u 706 := by rw [xF 706 (by decide), f1 706 (by decide) (by decide)]
  have e14 : F x0 714 = F u 714 := by rw [xF 714 (by decide), f1 714 (by decide) (by decide)]
  have e11 : F x0 711 = F u 711 := by rw [xF 711 (by decide), f1 711 (by decide) (by decide)]
  have e13 : F x0 713 = F u 713 := by rw [xF 713 (by decide), f1 713 (by decide) (by decide)]
  have e12 : F x0 712 = 0 := by rw [xF 712 (by decide), f12]
  have e4 : F x0 441 = F v1 441 := xF 441 (by decide)
  have c7 : ∀ j, j < 32 → (0 ≤ A x0 40 j ∧ A x0 40 j ≤ 4000) ∧ 0 ≤ A x0 41 j ∧ A x0 41 j ≤ 4000 := fun j hj => by
    rw [x40, x41]
    have := g7 j hj
    by_cases e : j = lv + 1
    · rw [if_pos e, if_pos e]; omega
    · rw [if_neg e, if_neg e]; exact this
  have c8 : A x0 40 (lv + 1) = F u 706 := by rw [x40, if_pos rfl]
  have c9 : A x0 41 (lv + 1) = 0 := by rw [x41, if_pos rfl]
  have cv : CVI x0 (lv + 1) := ⟨by rw [e4]; omega, by rw [e6]; exact g2, ⟨x9, by omega⟩, ⟨Or.inl e12, by rw [e13]; exact g4.2⟩, by rw [e14]; exact g5, by rw [e11]; exact g6, c7, by rw [c8, e6]; exact Int.le_refl _, by rw [c8, c9, e6]; omega⟩
  refine ⟨km, cv, e12, ⟨e6, e4, e14, e11, e13⟩, ⟨c8, fun j hj => ⟨by rw [x40, if_neg hj], by rw [x41, if_neg hj]⟩⟩, ⟨?_, ?_, fun pl hp => ⟨?_, ?_⟩, fun pl => ?_⟩, fun j => ?_⟩
  · rw [xA 30 P (by decide) (by decide), y30, if_pos rfl]
  · rw [xA 31 P (by decide) (by decide), y31, if_pos rfl]
  · rw [xA 30 pl (by decide) (by decide), y30, if_neg hp]
  · rw [xA 31 pl (by decide) (by decide), y31, if_neg hp]
  · rw [xA 32 pl (by decide) (by decide), A40 32 pl (by decide) (by decide), a1 32 pl (by decide)]
  · rw [xA 23 j (by decide) (by decide), A40 23 j (by decide) (by decide)]
end
end
