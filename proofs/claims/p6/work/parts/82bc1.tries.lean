set_option maxRecDepth 100000
def TPRc (u w : MS) (lv lo o k : Nat) (wh : Int) (z h m : Nat) (L : List Nat) (x : Nat) : Prop := z ≤ h ∧ 2 * h ≤ lo + 16 ∧ (F u 706 - A u 40 lv ≤ ((m : Nat) : Int) ∧ ((m : Nat) : Int) + A w 41 lv ≤ 40 + (F u 706 - A u 40 lv)) ∧ L.length ≤ o ∧ (k = 0 ∨ (∃ n : Nat, wh = ((n : Nat) : Int) ∧ n ≤ h) ∨ (wh = -1 ∧ 1 ≤ h) ∨ (wh = -2 ∧ x ≠ 0))
def TRYc (u w : MS) (lv lo q s o k : Nat) (wh c : Int) : Prop := ∃ Hp : List Nat, CHNc w Hp c ∧ (∀ p, p ∈ Hp → szc u ≤ p ∧ p < szc w) ∧ (Hp = [] → szc w = szc u) ∧ ∀ z h m L x, TPRc u w lv lo o k wh z h m L x → SGc w (szc u) (szc w) q s (Hp.map (fun p => (p, (h, m, L, 0, x)))) z h m L 0 x (some (h, m + knc u w, L, 0, x))
def TrS (N : Nat) (S : SF_Cm_fun) (o : Nat) : Prop := ∀ (f k kg g m : Nat) (u : MS) (lv cc Q : Nat) (ps : Nat → Nat) (n pl ph rg m2 hi a c c1 q s : Nat) (wh : Int), f ≤ 120 → CMP u lv cc ps Q (o + 1) pl → F u 706 ≤ ((pl : Nat) : Int) → (1 ≤ n ∧ n ≤ 8000) → (A u 18 n = ((m : Nat) : Int) ∧ ORc u 1 (PAc u f) k m pl ph a c q q) → (A u 19 n = ((g : Nat) : Int) ∧ ((g = 0 ∧ rg = m2 ∧ s = q) ∨ (1 ≤ g ∧ RWc u 1 (XPc u f (o + 1) 3) kg g rg m2 c c1 q s))) → ph ≤ rg → rg ≤ m2 → m2 ≤ hi → hi ≤ cc → c ≤ 8000 → (1 ≤ g → c1 ≤ 8000) → s ≤ Q → RG wh → OK (fun w r => ∃ ch : Int, r = I ch ∧ RG ch ∧ PCQ u w lv (WBc ps pl ph + WBc ps rg m2 + ((if k = 0 then 0 else 4) + (if g = 0 then 0 else 5))) (ph - pl + (m2 - rg)) hi q s (TRYc u w lv pl q s o k wh ch)) (S.2.2.2.2.2.2.2.2.2.2.2.1 u (I wh) (I ((n : Nat) : Int)))
section
variable {u v w : MS} {N lv t hi lo o q r s c h m g x d a b k n f Q : Nat} {ps : Nat → Nat} {S : SF_Cm_fun} {W B wh : Int} {Y : Prop}
theorem guardsX {K : MS → Int32 → Prop} {v4 v5 : Int32} (hE : ExS N S o 3) : ∀ (k M : Nat) (n lo hi a b q r : Nat) (u : MS), f ≤ 120 → CMP u lv c ps Q o lo → F u 712 = 1 → RWc u 1 (XPc u f o 3) k n lo hi a b q r → b ≤ 8000 → hi ≤ c → r ≤ Q → k + 1 ≤ M → (∀ w M2, PCQ u w lv (WBc ps lo hi + 1) (hi - lo) hi q r (TYX u w lv lo q r o False 0) → OK K (hb_Cm_tries_181 N S (hg_Cm_tries N S M2) w v4 v5 0)) → OK K ((hg_Cm_tries N S M).2 u v4 v5 (I ((n : Nat) : Int)))
  | 0, _, _, _, _, _, _, _, _, _, _, _, _, h, _, _, _, _, _ => h.elim
  | k + 1, M, n, lo, hi, a, b, q, r, u, hf, hu, h12, h, hb, hh, hQ, hM, kk => by
    obtain ⟨M, rfl⟩ : ∃ M2, M = M2 + 1 + 1 := ⟨M - 2, by omega⟩
    show OK _ (hb_Cm_tries_181 N S (hg_Cm_tries N S (M + 1)) u v4 v5 (I ((n : Nat) : Int)))
    obtain ⟨m, c2, s, e, h⟩ := h
    have he := XP_bd f o 3 _ _ _ _ _ _ _ e
    unfold HDc at he
    have hms : m ≤ hi ∧ c2 ≤ b ∧ s ≤ r := by
      rcases h with ⟨-, -, h1, h2, h3⟩ | ⟨-, n2, -, h3⟩
      · omega
      · have := (RW_hd (XP_bd f o 3) h3).1; unfold HDc at this; omega
    have hcs := CMP_c hu
    have i1 : inb (I ((n : Nat) : Int)) 8016 = true := (I_inb (by omega) (by omega)).mpr ⟨by omega, by omega⟩
    unfold hb_Cm_tries_181
    refine k_c (y := 0) rfl ⟨by omega, by omega⟩ ⟨by decide, by decide⟩ (fun z => absurd z (by omega)) (fun _ => ?_)
    rw [ok_bnd]
    refine ok_mono (hE f u lv c Q ps n lo m a c2 q s 0 hf hu e (by clear h; omega) (by clear h; omega) (by clear h; omega) (by omega)) (fun v _ p1 => ?_)
    refine put_1 (x := 22) p1.1.2.1.1 ⟨by decide, by decide⟩ (fun w1 e1 => ?_)
    have p2 := PC_tail (hi := m) (W := WBc ps lo m + 1) (la := False) (d2 := 0) p1 e1 (by omega) (Nat.le_refl _) (by simp) (fun z => absurd z (by decide)) (fun h m L g x p gd l15 hm hh hw => SG_hold (by omega) (by omega) hm (hw 0 (by simp)) (p.2.2.2.2.1.mpr h12) (by omega))
    rw [i1, ck_t, tnI (n := n) rfl (by omega), I_A (k := 21), p2.1.1.A (j := 21) (by simp)]
    rcases h with ⟨k0, h0, rfl, rfl, rfl⟩ | ⟨-, n2, h2, h3⟩
    · rw [h0]
      show OK _ (hb_Cm_tries_181 N S (hg_Cm_tries N S M) w1 v4 v5 0)
      exact kk w1 M p2
    · rw [h2]
      have g1 := (RW_hd (XP_bd f o 3) h3).1
      unfold HDc at g1
      have hw : CMP w1 lv c ps Q o (m + 1) := CMP_k hu p2.1 (by have := p2.2.1.2; have := hu.2.2.2.2; omega) (Nat.le_refl _)
      refine guardsX hE k (M + 1) n2 (m + 1) hi c2 b s r w1 hf hw (by rw [p2.1.2.2.2.2.2.1.1]; exact h12) (RW_k (XP_k (Nat.le_refl _) (Nat.le_refl _)) (XP_bd f o 3) h3 (KN_m p2.1.1)) hb hh hQ (by omega) (fun w M2 p3 => kk w M2 ?_)
      have wb := WB_2 hcs.1 (lo := lo) (m := m) (lo2 := m + 1) (hi := hi) (by omega) (by omega) (by omega) hh
      exact PC_two hu.1 p2 p3 (by omega) (by omega) (by omega) (hd := by omega) (W := WBc ps lo hi + 1) (t := hi - lo) (by omega) (by omega)
theorem patsX {K : MS → Int32 → Prop} {v2 v3 v4 : Int32} (hP : ∀ (u : MS) (lv c : Nat) (ps : Nat → Nat) (n lo hi a b q r : Nat), CVI u lv → CSX u c ps → PAc u f n lo hi a b q r → b ≤ 8000 → hi ≤ c → F u 706 + ((hi - lo : Nat) : Int) ≤ 4000 → OK (fun w _ => PQc u w lv (WBc ps lo hi) (hi - lo)) (hr_Cm_pattern N u (I ((n : Nat) : Int)))) : ∀ (k M : Nat) (n lo hi a b q r : Nat) (u : MS), CVI u lv → CSX u c ps → RWc u 1 (PAc u f) k n lo hi a b q r → b ≤ 8000 → hi ≤ c → F u 706 + ((hi - lo : Nat) : Int) ≤ 4000 → k + 1 ≤ M → (∀ w M2, M ≤ M2 + k + 1 → PQc u w lv (WBc ps lo hi) (hi - lo) → OK K (hb_Cm_tries_71 N S (hg_Cm_tries N S M2) w v2 v3 v4 0)) → OK K ((hg_Cm_tries N S M).1 u v2 v3 v4 (I ((n : Nat) : Int)))
  | 0, _, _, _, _, _, _, _, _, _, _, _, h, _, _, _, _, _ => h.elim
  | k + 1, M, n, lo, hi, a, b, q, r, u, hv, hc, h, hb, hh, ht, hM, kk => by
    obtain ⟨M, rfl⟩ : ∃ M2, M = M2 + 1 + 1 := ⟨M - 2, by omega⟩
    show OK _ (hb_Cm_tries_71 N S (hg_Cm_tries N S (M + 1)) u v2 v3 v4 (I ((n : Nat) : Int)))
    obtain ⟨m, c2, s, e, h⟩ := h
    have he := PA_bd f _ _ _ _ _ _ _ e
    unfold HDc at he
    have hms : m ≤ hi ∧ c2 ≤ b := by
      rcases h with ⟨-, -, h1, h2, -⟩ | ⟨-, n2, -, h3⟩
      · omega
      · have := (RW_hd (PA_bd f) h3).1; unfold HDc at this; omega
    have i1 : inb (I ((n : Nat) : Int)) 8016 = true := (I_inb (by omega) (by omega)).mpr ⟨by omega, by omega⟩
    unfold hb_Cm_tries_71
    refine k_c (y := 0) rfl ⟨by omega, by omega⟩ ⟨by decide, by decide⟩ (fun z => absurd z (by omega)) (fun _ => ?_)
    rw [ok_bnd]
    refine ok_mono (hP u lv c ps n lo m a c2 q s hv hc e (by clear h; omega) (by clear h; omega) (by clear h; omega)) (fun v _ p1 => ?_)
    rw [i1, ck_t, tnI (n := n) rfl (by omega), I_A (k := 21), p1.2.1.1.A (j := 21) (by simp)]
    rcases h with ⟨k0, h0, rfl, rfl, rfl⟩ | ⟨-, n2, h2, h3⟩
    · rw [h0]
      subst k0
      show OK _ (hb_Cm_tries_71 N S (hg_Cm_tries N S M) v v2 v3 v4 0)
      exact kk v M (by omega) p1
    · rw [h2]
      have g1 := (RW_hd (PA_bd f) h3).1
      unfold HDc at g1
      have tp := PQ_top p1
      have wb := WB_2 hc (lo := lo) (m := m) (lo2 := m + 1) (hi := hi) (by omega) (by omega) (by omega) hh
      exact patsX hP k (M + 1) n2 (m + 1) hi c2 b s r v p1.2.1.2.1 (CSX_k hc p1.2.1.1) (RW_k (PA_k (Nat.le_refl _)) (PA_bd f) h3 (KN_m p1.2.1.1)) hb hh (by omega) (by omega) (fun w M2 h5 p2 => kk w M2 (by omega) (PQ_w (PQ_tr hv.1.1 p1 p2) (by omega) (by omega)))
theorem pattern_300 (hN : 10000 ≤ N) (hf : f ≤ 120) (u : MS) (lv c : Nat) (ps : Nat → Nat) (n lo hi a b q r : Nat) (h1 : CVI u lv) (h2 : CSX u c ps) (h3 : PAc u f n lo hi a b q r) (h4 : b ≤ 8000) (h5 : hi ≤ c) (h6 : F u 706 + ((hi - lo : Nat) : Int) ≤ 4000) : OK (fun w _ => PQc u w lv (WBc ps lo hi) (hi - lo)) (hr_Cm_pattern N u (I ((n : Nat) : Int))) := (grpA_ok hN 300 f).1 (by omega) u lv c ps n lo hi a b q r h1 h2 h3 h4 h5 h6
end
