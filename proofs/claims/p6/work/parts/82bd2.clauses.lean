set_option maxRecDepth 100000
section
variable {u v w : MS} {N lv t hi lo o q r s c h m g x d a b k n f Q z la cl : Nat} {ps : Nat → Nat} {S : SF_Cm_fun} {L : List Nat}
theorem KN_rf : KNc u u a b n := ⟨⟨rfl, rfl⟩, fun k _ _ => ⟨⟨rfl, rfl, rfl, rfl, rfl⟩, fun _ => rfl⟩⟩
theorem clausesX_ok {cc g k : Nat} {K : MS → Unit → Prop} {s0 : MS} (hN : 1000000000 ≤ N) (hg : g < 666) (h0 : CMP s0 0 cc ps Q 1 0) (h12 : F s0 712 = 0) (h40 : A s0 40 0 = 0) (h25 : A s0 25 g = ((k : Nat) : Int)) (hQ : r ≤ Q) (hb : b ≤ 8000) (hh : hi ≤ cc) : ∀ (kc M n x a q2 : Nat) (v : MS), RWc v 1 (CLSc v) kc n x hi a b q2 r → PCQ s0 v 0 (WBc ps lo x) 0 x q q2 (F v 706 = 0 ∧ (A v 41 0 ≤ 40 → SGc v (szc s0) (szc v) q q2 [] 0 k 0 [] 0 0 (some (k, 0, [], 0, 0)))) → lo ≤ x → q ≤ q2 → kc + 1 ≤ M → (∀ w M2, PCQ s0 w 0 (WBc ps lo hi) 0 hi q r (F w 706 = 0 ∧ szc s0 < szc w ∧ (A w 41 0 ≤ 40 → SGc w (szc s0) (szc w) q r [] 0 k 0 [] 0 0 (some (k, 0, [], 0, 0)))) → OK K (hb_Cm_oneFunction_129 N (hg_Cm_oneFunction N M2) w (I ((g : Nat) : Int)) 0)) → OK K (hg_Cm_oneFunction N M v (I ((g : Nat) : Int)) (I ((n : Nat) : Int)))
  | 0, _, _, _, _, _, _, h, _, _, _, _, _ => h.elim
  | kc + 1, M, n, x, a, q2, v, h, pv, hlx, hqq, hM, kk => by
    obtain ⟨M, rfl⟩ : ∃ M2, M = M2 + 1 + 1 := ⟨M - 2, by omega⟩
    show OK _ (hb_Cm_oneFunction_129 N (hg_Cm_oneFunction N (M + 1)) v (I ((g : Nat) : Int)) (I ((n : Nat) : Int)))
    obtain ⟨m, c2, s, e, h⟩ := h
    obtain ⟨he, hl5, e17, e6, k2, ph, hk2, hP⟩ := e
    unfold HDc at he
    have hms : m ≤ hi ∧ c2 ≤ b ∧ s ≤ r := by
      rcases h with ⟨-, -, h1, h2, h3⟩ | ⟨-, n2, -, h3⟩
      · omega
      · have := (RW_hd CLS_bd h3).1; unfold HDc at this; omega
    have hcs := CMP_c h0
    have cv := pv.1.2.1
    have pv6 := pv.2.1
    have h06 := h0.2.2.2.2
    have c06 := h0.1.2.1
    have hP2 : PRTc v (PAc v 103) (XPc v 103 (0 + 2) 3) (XPc v 103 (0 + 1) 3) k2 n (x + 2) ph (ph + 1) m a c2 q2 s := PRT_k (PA_k (by omega)) (XP_k (by omega) (Nat.le_refl _)) (XP_k (by omega) (Nat.le_refl _)) (PA_bd 26) (XP_bd 99 2 3) (XP_bd 103 1 3) hP KN_rf
    obtain ⟨mp, cp, em18, hor, hcp⟩ : ∃ mp cp : Nat, A v 18 n = ((mp : Nat) : Int) ∧ ORc v 1 (PAc v 103) k2 mp (x + 2) ph a cp q2 q2 ∧ cp ≤ 8000 := by
      obtain ⟨hm, -, -, mp, cp, g, m2, c3, s3, kb, mb, c4, h18, h19, h20, hc⟩ := hP2
      have gb := (RW_hd (XP_bd 103 (0 + 2) 3) h20.2).1
      unfold HDc at gb
      rcases h19.2 with ⟨z1, z2, z3, z4⟩ | ⟨z1, kg, z2⟩
      · exact ⟨mp, cp, h18.1, h18.2, by clear h; omega⟩
      · have gr := (RW_hd (XP_bd 103 (0 + 1) 3) z2).1
        unfold HDc at gr
        exact ⟨mp, cp, h18.1, h18.2, by clear h; omega⟩
    have i1 : inb (I ((n : Nat) : Int)) 8016 = true := (I_inb (by omega) (by omega)).mpr ⟨by omega, by clear h; omega⟩
    have iX : inb (I ((x : Nat) : Int)) 4002 = true := (I_inb (by omega) (by omega)).mpr ⟨by omega, by clear h; omega⟩
    have ig : inb (I ((g : Nat) : Int)) 666 = true := (I_inb (by omega) (by omega)).mpr ⟨by omega, by omega⟩
    unfold hb_Cm_oneFunction_129
    refine k_c (y := 0) rfl ⟨by omega, by omega⟩ ⟨by decide, by decide⟩ (fun z => absurd z (by omega)) (fun _ => ?_)
    rw [i1, ck_t, ck_t, tnI (n := n) rfl (by omega), I_A' em18, len_ok (PA_bd 103) (by omega) (by omega) hor, bnd_so, I_A' e17, iX, ck_t, ig, ck_t, ck_t, tnI (n := x) rfl (by omega), tnI (n := g) rfl (by omega)]
    have e205 : ∀ v1, KMc v v1 0 → FR [714] [] [] [] v v1 → (F v1 714 = 1000000000 → k2 = k) → OK K (hb_Cm_oneFunction_205 N (hg_Cm_oneFunction N (M + 1)) v1 (I ((g : Nat) : Int)) (I ((n : Nat) : Int)) (I ((x : Nat) : Int)) (I ((k2 : Nat) : Int))) := fun v1 k1 f1 hkk => by
      unfold hb_Cm_oneFunction_205
      have e16 : F v1 706 = F v 706 := congrArg _ (f1.1 706 (by simp))
      have kv1 := KMc.tr pv.1 k1
      rw [iX, ck_t, tnI (n := x) rfl (by omega), I_A (k := 8), ok_bnd]
      have hv1 : CMP v1 0 cc ps Q (0 + 1) (x + 2) := CMP_k h0 kv1 (by omega) (by omega)
      refine ok_mono (clauseC_300 hN 103 k2 v1 0 cc Q ps n (x + 2) ph (ph + 1) m a c2 q2 s (A v1 8 x) (by omega) hv1 (by rw [kv1.2.2.2.2.2.1.1]; exact h12) (PRT_k (PA_k (Nat.le_refl _)) (XP_k (Nat.le_refl _) (Nat.le_refl _)) (XP_k (Nat.le_refl _) (Nat.le_refl _)) (PA_bd 103) (XP_bd 103 (0 + 2) 3) (XP_bd 103 (0 + 1) 3) hP2 (KN_m k1.1)) (by omega) (by clear h; omega) (by clear h; omega) (by clear h; omega) hk2 (A_r _ _ _)) (fun w _ p1 => ?_)
      rw [i1, ck_t, tnI (n := n) rfl (by omega), I_A (k := 21), (KMc.tr k1 p1.1).1.A (j := 21) (by simp)]
      have p16 := p1.2.1
      have wb := WB_2 hcs.1 (lo := lo) (m := x) (lo2 := x) (hi := m) (by omega) (by omega) (by omega) (by clear h; omega)
      have wb2 := WB_1 hcs.1 (lo := x) (lo2 := x + 2) (hi2 := m) (hi := m) (by omega) (by omega) (by omega) (by clear h; omega)
      have pf := PC_fr (hi := x) (q := q2) k1 (FR.mo f1 (by simp) (by simp) (by simp) (by simp))
      have q1 := PC_seq (Y := (F v 706 = 0 ∧ (A v 41 0 ≤ 40 → SGc v (szc s0) (szc v) q q2 [] 0 k 0 [] 0 0 (some (k, 0, [], 0, 0)))) ∧ OLQ v v1 q2 q2 ∧ szc v1 = szc v) pv pf (Nat.le_refl _) hqq (Nat.le_refl _) (fun gd o1 o2 y1 y2 => ⟨y1, o2, y2.1⟩)
      have p2 : PCQ s0 w 0 (WBc ps lo m) 0 m q s (F w 706 = 0 ∧ szc s0 < szc w ∧ (A w 41 0 ≤ 40 → SGc w (szc s0) (szc w) q s [] 0 k 0 [] 0 0 (some (k, 0, [], 0, 0)))) := by
        refine PC_w (PC_seq q1 p1 (by omega) hqq (by omega) (fun gd o1 o2 y1 y2 => ?_)) (by omega) (by omega) (Nat.le_refl _) (fun _ z => z)
        obtain ⟨⟨z6, ty⟩, ol, sz⟩ := y1
        obtain ⟨y6, ysz, tc⟩ := y2
        have le0 := szc_le h0.1 pv.1
        refine ⟨by rw [y6, e16]; exact z6, by omega, fun h41 => ?_⟩
        have a41 := p1.1.2.2.2.2.2.2.2.2
        have a41b := k1.2.2.2.2.2.2.2.2
        have ek : k2 = k := hkk (GD_u (hi1 := 0) (s := 0) k1.2.1 p1.1 gd (by omega) (by omega)).1
        subst ek
        have a40 := kv1.2.2.2.2.2.2.1 0 (Nat.le_refl _)
        have i2 := tc 0 ⟨by rw [a40, h40, e16, z6]; decide, by rw [a40, h40, e16, z6]; omega⟩
        have i1 := ty (by omega)
        have j1 := SG_kw k1.2.1 (SG_kw cv i1 k1.1 ol (Nat.le_refl _) (Or.inl (Nat.le_refl _))) p1.1.1 o2 (by omega) (Or.inl (Nat.le_refl _))
        rw [sz] at i2
        have j := SG_seq j1 i2 (Nat.le_refl _) (fun _ => rfl)
        rw [List.append_nil] at j
        exact j
      rcases h with ⟨k0, hz, rfl, rfl, rfl⟩ | ⟨-, n2, hz, h3⟩
      · rw [hz]
        show OK _ (hb_Cm_oneFunction_129 N (hg_Cm_oneFunction N M) w (I ((g : Nat) : Int)) 0)
        exact kk w M p2
      · rw [hz]
        have g1 := (RW_hd CLS_bd h3).1
        unfold HDc at g1
        have wb3 := WB_1 hcs.1 (lo := lo) (lo2 := lo) (hi2 := m) (hi := m + 1) (by omega) (by omega) (by omega) (by omega)
        exact clausesX_ok hN hg h0 h12 h40 h25 hQ hb hh kc (M + 1) n2 (m + 1) c2 s w (RW_k (CLS_k v w) CLS_bd h3 (KN_m (KMc.tr k1 p1.1).1)) (PC_w p2 (by omega) (by omega) (by omega) (fun _ y => ⟨y.1, y.2.2⟩)) (by omega) (by omega) (by omega) kk
    have e198 : OK K (hb_Cm_oneFunction_198 N (hg_Cm_oneFunction N (M + 1)) v (I ((g : Nat) : Int)) (I ((n : Nat) : Int)) (I ((x : Nat) : Int)) (I ((k2 : Nat) : Int))) := by
      unfold hb_Cm_oneFunction_198
      exact fault_B (y := 4) cv ⟨by omega, by clear h; omega⟩ ⟨by decide, by decide⟩ (fun v1 k1 f1 h9 => e205 v1 k1 f1 (fun z => by omega))
    rw [I_A (k := 25), pv.1.1.A (j := 25) (by simp), h25]
    refine ok_br.mpr ⟨fun _ => k_eq ⟨by omega, by omega⟩ ?_ (fun z => e205 v (KMc.rf cv) FR.rf (fun _ => by omega)) (fun _ => e198), fun _ => e198⟩
    have := A_r s0 25 g
    rw [h25] at this
    exact this
end
