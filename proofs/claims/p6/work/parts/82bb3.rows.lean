set_option maxRecDepth 100000
def WBc (ps : Nat → Nat) (lo hi : Nat) : Int := 12 * ((hi - lo : Nat) : Int) + ((ps hi - ps lo : Nat) : Int)
def CMP (u : MS) (lv c : Nat) (ps : Nat → Nat) (Q o lo : Nat) : Prop := CVI u lv ∧ CMX u c ps Q ∧ F u 713 = 0 ∧ lv ≤ o ∧ F u 706 ≤ ((lo : Nat) : Int)
def PXS (u w : MS) (lv : Nat) (ps : Nat → Nat) (lo hi q r o : Nat) (la : Prop) (d : Nat) : Prop := PCQ u w lv (WBc ps lo hi) (hi - lo) hi q r (TYX u w lv lo q r o la d)
def ExS (N : Nat) (S : SF_Cm_fun) (o cl : Nat) : Prop := ∀ (f : Nat) (u : MS) (lv c Q : Nat) (ps : Nat → Nat) (n lo hi a b q r la : Nat), f ≤ 120 → CMP u lv c ps Q o lo → XPc u f o cl n lo hi a b q r → b ≤ 8000 → hi ≤ c → r ≤ Q → la ≤ 1 → OK (fun w _ => PXS u w lv ps lo hi q r o (la = 1) 1) (S.2.2.2.2.2.2.2.2.2.2.1 u (I ((n : Nat) : Int)) (I ((la : Nat) : Int)))
def RoS (N : Nat) (S : SF_Cm_fun) (o : Nat) : Prop := ∀ (f k : Nat) (u : MS) (lv c Q : Nat) (ps : Nat → Nat) (n lo hi a b q r : Nat), f ≤ 120 → CMP u lv c ps Q o lo → ORc u 1 (XPc u f o 3) k n lo hi a b q r → b ≤ 8000 → hi ≤ c → r ≤ Q → OK (fun w _ => PXS u w lv ps lo hi q r o False k) (S.2.2.2.2.2.2.2.2.2.1 u (I ((n : Nat) : Int)))
section
variable {u v w : MS} {N lv t hi hi2 lo lo2 o o2 q r s c h m g x d a b k n f Q : Nat} {ps : Nat → Nat} {S : SF_Cm_fun} {la : Prop}
theorem WB_1 (hc : CSX u c ps) (h1 : lo ≤ lo2) (h2 : lo2 ≤ hi2) (h3 : hi2 ≤ hi) (h4 : hi ≤ c) : WBc ps lo2 hi2 + 12 * ((hi - hi2 : Nat) : Int) + 12 * ((lo2 - lo : Nat) : Int) ≤ WBc ps lo hi := by
  have := ps_le hc (a := lo) (b := lo2) h1 (by omega)
  have := ps_le hc (a := lo2) (b := hi2) h2 (by omega)
  have := ps_le hc (a := hi2) (b := hi) h3 (by omega)
  unfold WBc
  omega
theorem WB_2 (hc : CSX u c ps) (h1 : lo ≤ m) (h2 : m ≤ lo2) (h3 : lo2 ≤ hi) (h4 : hi ≤ c) : WBc ps lo m + WBc ps lo2 hi + 12 * ((lo2 - m : Nat) : Int) ≤ WBc ps lo hi := by
  have := ps_le hc (a := lo) (b := m) h1 (by omega)
  have := ps_le hc (a := m) (b := lo2) h2 (by omega)
  have := ps_le hc (a := lo2) (b := hi) h3 (by omega)
  unfold WBc
  omega
theorem WB_0 : 12 * ((hi - lo : Nat) : Int) ≤ WBc ps lo hi := by unfold WBc; omega
theorem CMP_k (h : CMP u lv c ps Q o lo) (k : KMc u w lv) (h6 : F w 706 ≤ ((lo2 : Nat) : Int)) (ho : o ≤ o2) : CMP w lv c ps Q o2 lo2 := ⟨k.2.1, CMX_k h.2.1 k.1, by rw [k.2.2.2.2.2.1.2]; exact h.2.2.1, by have := h.2.2.2.1; omega, h6⟩
theorem CMP_m (h : CMP u lv c ps Q o lo) (hl : lo ≤ lo2) (ho : o ≤ o2) : CMP u lv c ps Q o2 lo2 := ⟨h.1, h.2.1, h.2.2.1, by have := h.2.2.2.1; omega, by have := h.2.2.2.2; omega⟩
theorem CMP_s (h : CMP u lv c ps Q o lo) (p : PXS u w lv ps lo hi q r o la d) (hl : lo ≤ hi) (h2 : hi ≤ lo2) (ho : o ≤ o2) : CMP w lv c ps Q o2 lo2 := CMP_k h p.1 (by have := p.2.1.2; have := h.2.2.2.2; omega) ho
theorem CMP_c (h : CMP u lv c ps Q o lo) : CSX u c ps ∧ c ≤ 4000 := ⟨h.2.1.1, h.2.1.1.2.1.2⟩
theorem PX_0 (h : CVI u lv) : PXS u u lv ps lo lo q q o la 0 := PC_w (PC_rf h) (by unfold WBc; omega) (by omega) (Nat.le_refl _) (fun gd _ h m L g x p => ⟨fun _ => rfl, by
  rw [show knc u u = 0 by show (F u 706 - F u 706).toNat = 0; omega]
  exact SG_nl⟩)
theorem PX_mo (p : PXS u w lv ps lo2 hi2 q r o2 la d) (hc : CSX u c ps) (h1 : lo ≤ lo2) (h2 : lo2 ≤ hi2) (h3 : hi2 ≤ hi) (h4 : hi ≤ c) (ho : o ≤ o2) {la2 : Prop} (hl : la → la2) : PXS u w lv ps lo hi q r o la2 d := PC_w p (by have := WB_1 hc h1 h2 h3 h4; omega) (by omega) h3 (fun _ y => TY_mo y h1 ho hl)
theorem RW_2k {E : Nat → Nat → Nat → Nat → Nat → Nat → Nat → Prop} (hb : BdE E) : ∀ {k n lo hi a b q r : Nat}, RWc u 1 E k n lo hi a b q r → lo + 2 * k ≤ hi + 1
  | 0, _, _, _, _, _, _, _, h => h.elim
  | k + 1, n, lo, hi, a, b, q, r, h => by
    obtain ⟨m, c, s, e, h | ⟨h1, n2, h2, h3⟩⟩ := h
    · have := hb _ _ _ _ _ _ _ e
      unfold HDc at this
      omega
    · have := hb _ _ _ _ _ _ _ e
      unfold HDc at this
      have := RW_2k hb h3
      omega
theorem OR_2k {E : Nat → Nat → Nat → Nat → Nat → Nat → Nat → Prop} (hb : BdE E) (h : ORc u 1 E k n lo hi a b q r) : lo + 2 * k ≤ hi + 1 := by
  rcases h with h | ⟨-, h⟩
  · omega
  · exact RW_2k hb h
theorem rowX_ok (hE : ExS N S o 3) : ∀ (k M : Nat) (n lo hi a b q r : Nat) (u : MS), f ≤ 120 → CMP u lv c ps Q o lo → RWc u 1 (XPc u f o 3) k n lo hi a b q r → b ≤ 8000 → hi ≤ c → r ≤ Q → k + 1 ≤ M → OK (fun w _ => PXS u w lv ps lo hi q r o False k) (hg_Cm_row N S M u (I ((n : Nat) : Int)))
  | 0, _, _, _, _, _, _, _, _, _, _, _, h, _, _, _, _ => h.elim
  | k + 1, M, n, lo, hi, a, b, q, r, u, hf, hu, h, hb, hh, hQ, hM => by
    obtain ⟨M, rfl⟩ : ∃ M2, M = M2 + 1 + 1 := ⟨M - 2, by omega⟩
    show OK _ (hb_Cm_row_2 N S (hg_Cm_row N S (M + 1)) u (I ((n : Nat) : Int)))
    obtain ⟨m, c2, s, e, h⟩ := h
    have he := XP_bd f o 3 _ _ _ _ _ _ _ e
    unfold HDc at he
    have hms : m ≤ hi ∧ c2 ≤ b ∧ s ≤ r := by
      rcases h with ⟨-, -, h1, h2, h3⟩ | ⟨-, n2, -, h3⟩
      · omega
      · have := (RW_hd (XP_bd f o 3) h3).1; unfold HDc at this; omega
    unfold hb_Cm_row_2
    refine k_c (y := 0) rfl ⟨by omega, by omega⟩ ⟨by decide, by decide⟩ (fun z => absurd z (by omega)) (fun _ => ?_)
    rw [ok_bnd]
    refine ok_mono (hE f u lv c Q ps n lo m a c2 q s 0 hf hu e (by clear h; omega) (by clear h; omega) (by clear h; omega) (by omega)) (fun v _ p1 => e_in ⟨by omega, by omega⟩ (by decide) ?_)
    rw [tnI (n := n) rfl (by omega), I_A (k := 21), p1.1.1.A (j := 21) (by simp)]
    rcases h with ⟨k0, h0, rfl, -, rfl⟩ | ⟨-, n2, h2, h3⟩
    · rw [h0]
      subst k0
      show OK _ (hb_Cm_row_2 N S (hg_Cm_row N S M) v (I 0))
      unfold hb_Cm_row_2
      refine k_c (y := 0) rfl ⟨by decide, by decide⟩ ⟨by decide, by decide⟩ (fun _ => ok_some.mpr ?_) (fun z => absurd rfl z)
      exact PC_w p1 (Int.le_refl _) (Nat.le_refl _) (Nat.le_refl _) (fun _ y => TY_mo y (Nat.le_refl _) (Nat.le_refl _) (fun z => absurd z (by decide)))
    · rw [h2]
      have g1 := (RW_hd (XP_bd f o 3) h3).1
      unfold HDc at g1
      refine ok_mono (rowX_ok hE k (M + 1) n2 (m + 1) hi c2 b s r v hf (CMP_s hu p1 (by omega) (by omega) (Nat.le_refl _)) (RW_k (XP_k (Nat.le_refl _) (Nat.le_refl _)) (XP_bd f o 3) h3 (KN_m p1.1.1)) hb hh hQ (by omega)) (fun w _ p2 => ?_)
      have wb := WB_2 (CMP_c hu).1 (lo := lo) (m := m) (lo2 := m + 1) (hi := hi) (by omega) (by omega) (by omega) hh
      have p1' : PXS u v lv ps lo m q s o False 1 := PC_w p1 (Int.le_refl _) (Nat.le_refl _) (Nat.le_refl _) (fun _ y => TY_mo y (Nat.le_refl _) (Nat.le_refl _) (fun z => absurd z (by decide)))
      have := PC_two hu.1 p1' p2 (by omega) (by omega) (by omega) (hd := by omega) (W := WBc ps lo hi) (t := hi - lo) (by omega) (by omega)
      rw [Nat.add_comm] at this
      exact this
theorem rowC_ok (hE : ExS N S o 3) (hN : 10000 ≤ N) {S2 : SF_Cm_fun} (h2 : S2.2.2.2.2.2.2.2.2.2.1 = hm_Cm_row N S) : RoS N S2 o := by
  intro f k u lv c Q ps n lo hi a b q r hf hu h hb hh hQ
  rw [h2]
  obtain ⟨N, rfl⟩ : ∃ N2, N = N2 + 1 := ⟨N - 1, by omega⟩
  unfold hm_Cm_row hb_Cm_row_0
  rcases h with ⟨rfl, rfl, rfl, rfl, rfl⟩ | ⟨h1, h⟩
  · show OK _ (hb_Cm_row_2 (N + 1) S (hg_Cm_row (N + 1) S N) u (I 0))
    unfold hb_Cm_row_2
    exact k_c (y := 0) rfl ⟨by decide, by decide⟩ ⟨by decide, by decide⟩ (fun _ => ok_some.mpr (PX_0 hu.1)) (fun z => absurd rfl z)
  · have := RW_cnt (XP_bd f o 3) h
    exact rowX_ok hE k (N + 1) n lo hi a b q r u hf hu h hb hh hQ (by omega)
end
