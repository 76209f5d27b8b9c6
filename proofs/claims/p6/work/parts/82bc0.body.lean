set_option maxRecDepth 100000
def BoS (N : Nat) (S : SF_Cm_fun) (o : Nat) : Prop := ∀ (f k : Nat) (u : MS) (lv c Q : Nat) (ps : Nat → Nat) (n lo hi a b q r la : Nat), f ≤ 120 → CMP u lv c ps Q o lo → RWc u 1 (XPc u f o 3) k n lo hi a b q r → b ≤ 8000 → hi ≤ c → r ≤ Q → la ≤ 1 → OK (fun w _ => PXS u w lv ps lo hi q r o (la = 1) 1) (S.2.2.2.1 u (I ((n : Nat) : Int)) (I ((la : Nat) : Int)))
section
variable {u v w : MS} {N lv t hi lo o q r s c h m g x d a b k n f Q la : Nat} {ps : Nat → Nat} {S : SF_Cm_fun} {W B : Int} {Y : Prop}
theorem bodyX_ok (hE : ExS N S o 3) (hla : la ≤ 1) : ∀ (k M : Nat) (n lo hi a b q r : Nat) (u : MS), f ≤ 120 → CMP u lv c ps Q o lo → RWc u 1 (XPc u f o 3) k n lo hi a b q r → b ≤ 8000 → hi ≤ c → r ≤ Q → k + 1 ≤ M → OK (fun w _ => PXS u w lv ps lo hi q r o (la = 1) 1) (hg_Cm_body N S M u (I ((la : Nat) : Int)) (I ((n : Nat) : Int)))
  | 0, _, _, _, _, _, _, _, _, _, _, _, h, _, _, _, _ => h.elim
  | k + 1, M, n, lo, hi, a, b, q, r, u, hf, hu, h, hb, hh, hQ, hM => by
    obtain ⟨M, rfl⟩ : ∃ M2, M = M2 + 1 + 1 := ⟨M - 2, by omega⟩
    show OK _ (hb_Cm_body_2 N S (hg_Cm_body N S (M + 1)) u (I ((la : Nat) : Int)) (I ((n : Nat) : Int)))
    obtain ⟨m, c2, s, e, h⟩ := h
    have he := XP_bd f o 3 _ _ _ _ _ _ _ e
    unfold HDc at he
    have hms : m ≤ hi ∧ c2 ≤ b ∧ s ≤ r := by
      rcases h with ⟨-, -, h1, h2, h3⟩ | ⟨-, n2, -, h3⟩
      · omega
      · have := (RW_hd (XP_bd f o 3) h3).1; unfold HDc at this; omega
    have hcs := CMP_c hu
    have i1 : inb (I ((n : Nat) : Int)) 8016 = true := (I_inb (by omega) (by omega)).mpr ⟨by omega, by omega⟩
    unfold hb_Cm_body_2 hb_Cm_body_23 hb_Cm_body_40
    refine k_c (y := 0) rfl ⟨by omega, by omega⟩ ⟨by decide, by decide⟩ (fun z => absurd z (by omega)) (fun _ => ?_)
    rw [i1, ck_t, tnI (n := n) rfl (by omega), I_A (k := 21)]
    rcases h with ⟨k0, h0, rfl, rfl, rfl⟩ | ⟨-, n2, h2, h3⟩
    · rw [h0]
      refine k_c (y := 0) rfl ⟨by decide, by decide⟩ ⟨by decide, by decide⟩ (fun _ => ?_) (fun z => absurd rfl z)
      have e41 : OK (fun w _ => PXS u w lv ps lo m q s o (la = 1) 1) (hb_Cm_body_41 N S (hg_Cm_body N S (M + 1)) u (I ((la : Nat) : Int)) (I ((n : Nat) : Int)) 0 (I ((n : Nat) : Int)) (I ((la : Nat) : Int))) := by
        unfold hb_Cm_body_41
        rw [ok_bnd]
        refine ok_mono (hE f u lv c Q ps n lo m a c2 q s la hf hu e hb hh hQ hla) (fun v _ p1 => ?_)
        refine ok_br.mpr ⟨fun _ => ?_, fun z => absurd z (by decide)⟩
        unfold hb_Cm_body_58
        rw [i1, ck_t, tnI (n := n) rfl (by omega), I_A (k := 21), p1.1.1.A (j := 21) (by simp), h0]
        show OK _ (hb_Cm_body_2 N S (hg_Cm_body N S M) v (I ((la : Nat) : Int)) (I 0))
        unfold hb_Cm_body_2
        exact k_c (y := 0) rfl ⟨by decide, by decide⟩ ⟨by decide, by decide⟩ (fun _ => ok_some.mpr p1) (fun z => absurd rfl z)
      rcases (by omega : la = 0 ∨ la = 1) with rfl | rfl
      · exact k_c (y := 0) rfl ⟨by decide, by decide⟩ ⟨by decide, by decide⟩ (fun _ => e41) (fun z => absurd rfl z)
      · refine k_c (y := 0) rfl ⟨by decide, by decide⟩ ⟨by decide, by decide⟩ (fun z => absurd z (by decide)) (fun _ => ?_)
        exact ok_br.mpr ⟨fun _ => e41, fun z => absurd z (by decide)⟩
    · rw [h2]
      have g1 := (RW_hd (XP_bd f o 3) h3).1
      unfold HDc at g1
      refine k_c (y := 0) rfl ⟨by omega, by omega⟩ ⟨by decide, by decide⟩ (fun z => absurd z (by omega)) (fun _ => ?_)
      have e41 : OK (fun w _ => PXS u w lv ps lo hi q r o (la = 1) 1) (hb_Cm_body_41 N S (hg_Cm_body N S (M + 1)) u (I ((la : Nat) : Int)) (I ((n : Nat) : Int)) 1 (I ((n : Nat) : Int)) 0) := by
        unfold hb_Cm_body_41
        rw [ok_bnd]
        refine ok_mono (hE f u lv c Q ps n lo m a c2 q s 0 hf hu e (by omega) (by omega) (by omega) (by omega)) (fun v _ p1 => ?_)
        refine ok_br.mpr ⟨fun z => absurd z (by decide), fun _ => ?_⟩
        refine put_1 (x := 15) p1.1.2.1.1 ⟨by decide, by decide⟩ (fun w1 e1 => ?_)
        have p2 := PC_tail (hi := m) (W := WBc ps lo m + 1) (la := False) (d2 := 0) p1 e1 (by omega) (Nat.le_refl _) (by simp) (fun z => absurd z (by decide)) (fun h m L g x p gd l15 hm hh hw => SG_drop (by omega) (by omega) hm (hw 0 (by simp)) (by omega))
        unfold hb_Cm_body_58
        rw [i1, ck_t, tnI (n := n) rfl (by omega), I_A (k := 21), p2.1.1.A (j := 21) (by simp), h2]
        have hw : CMP w1 lv c ps Q o (m + 1) := CMP_k hu p2.1 (by have := p2.2.1.2; have := hu.2.2.2.2; omega) (Nat.le_refl _)
        refine ok_mono (bodyX_ok hE hla k (M + 1) n2 (m + 1) hi c2 b s r w1 hf hw (RW_k (XP_k (Nat.le_refl _) (Nat.le_refl _)) (XP_bd f o 3) h3 (KN_m p2.1.1)) hb hh hQ (by omega)) (fun w _ p3 => ?_)
        have wb := WB_2 hcs.1 (lo := lo) (m := m) (lo2 := m + 1) (hi := hi) (by omega) (by omega) (by omega) hh
        have p4 := PC_two hu.1 p2 p3 (by omega) (by omega) (by omega) (hd := by omega) (W := WBc ps lo hi) (t := hi - lo) (by omega) (by omega)
        rw [Nat.zero_add] at p4
        exact p4
      refine ok_br.mpr ⟨fun _ => e41, fun _ => ok_br.mpr ⟨fun z => absurd z (by decide), fun _ => e41⟩⟩
theorem bodyC_ok (hE : ExS N S o 3) (hN : 10000 ≤ N) {S2 : SF_Cm_fun} (h2 : S2.2.2.2.1 = hm_Cm_body N S) : BoS N S2 o := by
  intro f k u lv c Q ps n lo hi a b q r la hf hu h hb hh hQ hla
  rw [h2]
  have := RW_cnt (XP_bd f o 3) h
  exact bodyX_ok hE hla k N n lo hi a b q r u hf hu h hb hh hQ (by omega)
theorem PC_flag {y : Int} (hk : k = 712 ∨ k = 713) (cu : CVI u lv) (hy : y = 0 ∨ y = 1) (p : PCQ (wi u k y) w lv W t hi q r Y) : PCQ u (wi w k (F u k)) lv W t hi q r (szc (wi u k y) = szc u ∧ Y) := by
  have hr : RG y := ⟨by omega, by omega⟩
  have fr := FRG1 u k
  have eu : ∀ j, j ≠ k → F (wi u k y) j = F u j := fun j hj => by rw [F_wi hr.1 hr.2, if_neg hj]
  have ew : ∀ j, j ≠ k → F (wi w k (F u k)) j = F w j := fun j hj => by rw [F_wi fr.1 fr.2, if_neg hj]
  have ek : F (wi w k (F u k)) k = F u k := by rw [F_wi fr.1 fr.2, if_pos rfl]
  have eA : ∀ r j, A (wi w k (F u k)) r j = A w r j := fun _ _ => rfl
  have eB : ∀ r j, A (wi u k y) r j = A u r j := fun _ _ => rfl
  have n4 : 441 ≠ k := by omega
  have n6 : 706 ≠ k := by omega
  have n9 : 709 ≠ k := by omega
  have n11 : 711 ≠ k := by omega
  have n14 : 714 ≠ k := by omega
  have h12 := cu.2.2.2.1
  obtain ⟨⟨k1, k2, k3, k4, k5, k6, k7, k8, k9⟩, p2, p3, p4⟩ := p
  obtain ⟨g1, g2, g3, g4, g5, g6, g7, g8, g9⟩ := k2
  rw [eu 441 n4] at k3
  rw [eu 714 n14] at k4
  rw [eu 711 n11] at k5
  rw [eu 706 n6] at p2
  rw [eu 441 n4] at p3
  have km : KMF u (wi w k (F u k)) := by
    have f1 : KMF u (wi u k y) := FR.wi FR.rf (by rcases hk with rfl | rfl <;> simp)
    exact FR.wi (FR.tr f1 k1) (by rcases hk with rfl | rfl <;> simp)
  have f12 : F (wi w k (F u k)) 712 = F u 712 := by
    rcases hk with rfl | rfl
    · exact ek
    · rw [ew 712 (by decide), k6.1, eu 712 (by decide)]
  have f13 : F (wi w k (F u k)) 713 = F u 713 := by
    rcases hk with rfl | rfl
    · rw [ew 713 (by decide), k6.2, eu 713 (by decide)]
    · exact ek
  refine ⟨⟨km, ⟨by rw [ew 441 n4]; exact g1, by rw [ew 706 n6]; exact g2, by rw [ew 709 n9]; exact g3, by rw [f12, f13]; exact h12, by rw [ew 714 n14]; exact g5, by rw [ew 711 n11]; exact g6, g7, by rw [ew 706 n6]; exact g8, by rw [ew 706 n6]; exact g9⟩, by rw [ew 441 n4]; exact k3, by rw [ew 714 n14]; exact k4, fun z => k5 (by rw [ew 711 n11] at z; exact z), ⟨f12, f13⟩, fun j hj => k7 j hj, fun j hj => k8 j hj, k9⟩, by rw [ew 706 n6]; exact p2, fun z => by rw [ew 711 n11] at z; rw [ew 441 n4]; exact p3 z, fun gd => ?_⟩
  have gw : GDc w hi r := by
    unfold GDc at gd ⊢
    rw [ew 714 n14, ew 711 n11, ew 441 n4] at gd
    exact gd
  obtain ⟨o1, y1⟩ := p4 gw
  exact ⟨⟨fun j hj => o1.1 j (by rw [eu 441 n4]; exact hj), o1.2⟩, by show (F (wi u k y) 441).toNat = _; rw [eu 441 n4], y1⟩
theorem CVI_flag {y : Int} (hk : k = 712 ∨ k = 713) (cu : CVI u lv) (hy : y = 0 ∨ y = 1) : CVI (wi u k y) lv := by
  have hr : RG y := ⟨by omega, by omega⟩
  have eu : ∀ j, j ≠ k → F (wi u k y) j = F u j := fun j hj => by rw [F_wi hr.1 hr.2, if_neg hj]
  have ek : F (wi u k y) k = y := by rw [F_wi hr.1 hr.2, if_pos rfl]
  have n4 : 441 ≠ k := by omega
  have n6 : 706 ≠ k := by omega
  have n9 : 709 ≠ k := by omega
  have n11 : 711 ≠ k := by omega
  have n14 : 714 ≠ k := by omega
  obtain ⟨g1, g2, g3, g4, g5, g6, g7, g8, g9⟩ := cu
  refine ⟨by rw [eu 441 n4]; exact g1, by rw [eu 706 n6]; exact g2, by rw [eu 709 n9]; exact g3, ?_, by rw [eu 714 n14]; exact g5, by rw [eu 711 n11]; exact g6, g7, by rw [eu 706 n6]; exact g8, by rw [eu 706 n6]; exact g9⟩
  rcases hk with rfl | rfl
  · exact ⟨by rw [ek]; exact hy, by rw [eu 713 (by decide)]; exact g4.2⟩
  · exact ⟨by rw [eu 712 (by decide)]; exact g4.1, by rw [ek]; exact hy⟩
theorem PQ_pc (p : PQc u w lv B t) : PCQ u w lv B t hi q q (PTSc w (szc u) (szc w) (knc u w)) := by
  obtain ⟨f, k1, o1, hB, kn, h1, h2, h3⟩ := p
  refine ⟨k1, by omega, fun _ => hB, fun gd => ⟨⟨o1, fun pl _ => ⟨?_, ?_, ?_⟩⟩, ?_⟩⟩
  · show (w.2.2.1 30 pl).toInt = _; rw [f.2.2.1 30 (by simp)]; rfl
  · show (w.2.2.1 31 pl).toInt = _; rw [f.2.2.1 31 (by simp)]; rfl
  · show (w.2.2.1 32 pl).toInt = _; rw [f.2.2.1 32 (by simp)]; rfl
  · have e : knc u w = kn := by show (F w 706 - F u 706).toNat = kn; omega
    rw [e]
    exact h3 gd.2.2.1
end
