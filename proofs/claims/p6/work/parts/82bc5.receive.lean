set_option maxRecDepth 100000
def ReS (N : Nat) (S : SF_Cm_fun) (o cl : Nat) : Prop := ∀ (f : Nat) (u : MS) (lv c Q : Nat) (ps : Nat → Nat) (n lo hi a b q r la : Nat), f ≤ 120 → CMP u lv c ps Q o lo → F u 712 = 0 ∨ F u 714 < 1000000000 → XPc u f o cl n lo hi a b q r → A u 16 n = 11 → b ≤ 8000 → hi ≤ c → r ≤ Q → la ≤ 1 → OK (fun w _ => PXS u w lv ps lo hi q r o (la = 1) 1) (S.2.1 u (I ((n : Nat) : Int)) (I ((la : Nat) : Int)))
section
variable {u v w : MS} {N lv t t1 t2 hi hi1 lo o q r s c h m g x d a b k n f Q z la qa ra qb rb : Nat} {ps : Nat → Nat} {S : SF_Cm_fun} {W W1 W2 B wh th ce : Int} {L : List Nat} {H H1 H2 : List (Nat × Tyc)} {oo : Option Tyc} {Y Y1 Y2 : Prop} {P P1 P2 : (Nat → Option Tyc) → MS → Prop} {y y1 : Tyc} {E E2 : Nat → Nat → Nat → Nat → Nat → Nat → Nat → Prop}
theorem RW_mp (h : ∀ n lo hi a b q r, E n lo hi a b q r → E2 n lo hi a b q r) : ∀ {k n lo hi a b q r : Nat}, RWc u d E k n lo hi a b q r → RWc u d E2 k n lo hi a b q r
  | 0, _, _, _, _, _, _, _, z => z
  | k + 1, n, lo, hi, a, b, q, r, z => by
    obtain ⟨m, c, s, e, z⟩ := z
    refine ⟨m, c, s, h _ _ _ _ _ _ _ e, ?_⟩
    rcases z with z | ⟨z1, n2, z2, z3⟩
    · exact Or.inl z
    · exact Or.inr ⟨z1, n2, z2, RW_mp h z3⟩
theorem OR_mp (h : ∀ n lo hi a b q r, E n lo hi a b q r → E2 n lo hi a b q r) (z : ORc u d E k n lo hi a b q r) : ORc u d E2 k n lo hi a b q r := by
  rcases z with z | ⟨z1, z2⟩
  · exact Or.inl z
  · exact Or.inr ⟨z1, RW_mp h z2⟩
theorem CSP_pp : CSPc u (PAc u f) (XPc u f (o + 2) 3) (XPc u f (o + 1) 3) n lo hi a b q r → PPc u f o 1 n lo hi a b q r := fun ⟨hd, m1, hn, _, _, m, c, g, m2, c1, s, kb, mb, c2, h18, h19, h20, hc2⟩ => by
  have gp := OR_hd (PA_bd f) h18.2
  rcases h19 with ⟨e19, ⟨z1, z2, z3, z4⟩ | ⟨z1, kg, z2⟩⟩
  · exact ⟨hd, m, c, g, m2, c1, s, kb, mb, c2, 0, m2, m1, h18, ⟨e19, Or.inl ⟨z1, rfl, z4⟩⟩, h20, ⟨by omega, hc2⟩, ⟨by omega, by omega, by omega⟩, fun z => absurd z1 z⟩
  · have gr := (RW_hd (XP_bd f (o + 1) 3) z2).1
    unfold HDc at gr
    exact ⟨hd, m, c, g, m2, c1, s, kb, mb, c2, kg, m1 + 1, m1, h18, ⟨e19, Or.inr ⟨z1, z2⟩⟩, h20, ⟨by omega, hc2⟩, ⟨by omega, by omega, by omega⟩, fun _ _ => Nat.le_refl _⟩
theorem CHP_pp : CHPc u (XPc u f (o + 2) 3) (XPc u f (o + 1) 3) n lo hi a b q r → PPc u f o 0 n lo hi a b q r := fun ⟨hd, _, _, e18, g, kg, m2, c1, s, kb, mb, c2, h19, h20, hc2⟩ => by
  have gr := (RW_hd (XP_bd f (o + 1) 3) h19.2.2).1
  unfold HDc at gr
  exact ⟨hd, 0, a, g, m2, c1, s, kb, mb, c2, kg, lo, lo, ⟨e18, Or.inl ⟨rfl, rfl, rfl, rfl, rfl⟩⟩, ⟨h19.1, Or.inr ⟨h19.2.1, h19.2.2⟩⟩, h20, ⟨by omega, hc2⟩, ⟨by omega, by omega, by omega⟩, fun _ z => absurd rfl z⟩
theorem PC_seqw (a : PCQ u v lv W1 t1 hi1 qa ra Y1) (b : PCQ v w lv W2 t2 hi qb rb Y2) (h1 : hi1 ≤ hi) (ha : q ≤ qa ∧ q ≤ qb) (hr : ra ≤ r ∧ rb ≤ r) (hY : GDc w hi r → OLQ u v qa ra → OLQ v w qb rb → Y1 → Y2 → Y) : PCQ u w lv (W1 + W2) (t1 + t2) hi q r Y := by
  obtain ⟨a1, a2, a3, a4⟩ := a
  obtain ⟨b1, b2, b3, b4⟩ := b
  refine ⟨KMc.tr a1 b1, by omega, fun e => ?_, fun g => ?_⟩
  · have := b3 e
    have := a3 (b1.2.2.2.2.1 e)
    omega
  · obtain ⟨o2, y2⟩ := b4 ⟨g.1, g.2.1, g.2.2.1, g.2.2.2.1, by have := g.2.2.2.2; omega⟩
    obtain ⟨o1, y1⟩ := a4 (GD_u a1.2.1 b1 g h1 hr.1)
    refine ⟨⟨fun j hj => (o2.1 j (by have := a1.2.2.1; omega)).trans (o1.1 j hj), fun pl hp => ?_⟩, hY g o1 o2 y1 y2⟩
    obtain ⟨a1, a2, a3⟩ := o1.2 pl (by omega)
    obtain ⟨b1, b2, b3⟩ := o2.2 pl (by omega)
    exact ⟨b1.trans a1, b2.trans a2, b3.trans a3⟩
theorem SP_seqr (y0 : SGp P1 u a b s r H1 y (some y1)) (y2 : SGp P2 u b c q s H2 y1 oo) (f1 : ∀ v T, P T v → P1 T v ∧ P2 T v) : SGp P u a c q r (H1 ++ H2) y oo := by
  obtain ⟨⟨z1, z1'⟩, z2, z3, T1, z4, z5⟩ := y0
  obtain ⟨⟨w1, w1'⟩, y2, y3, T2, y4, y5⟩ := y2
  have ab : a = b → _ := fun e => z2 e
  refine ⟨⟨by omega, by omega⟩, fun e => ?_, fun p t hp => ?_, fun i => if i < b then T1 i else T2 i, fun hac => ?_, fun v T ha ht hT ho hH hX => ?_⟩
  · have e1 := ab (by omega)
    rw [y2 (by omega)]
    exact e1
  · rcases List.mem_append.mp hp with hp | hp
    · have := z3 p t hp; omega
    · have := y3 p t hp; omega
  · show (if a < b then T1 a else T2 a) = _
    by_cases e : a < b
    · rw [if_pos e]; exact z4 e
    · have e2 : a = b := by omega
      have e3 := ab e2
      rw [if_neg e, e2, y4 (by omega)]
      exact e3
  · have hT1 : ∀ i, a ≤ i → i < b → T i = T1 i := fun i i1 i2 => by
      rw [hT i i1 (by omega)]
      show (if i < b then T1 i else T2 i) = _
      rw [if_pos i2]
    have hT2 : ∀ i, b ≤ i → i < c → T i = T2 i := fun i i1 i2 => by
      rw [hT i (by omega) i2]
      show (if i < b then T1 i else T2 i) = _
      rw [if_neg (by omega)]
    have hb : T b = some y1 := by
      by_cases e : b < c
      · rw [hT2 b (Nat.le_refl _) e]; exact y4 e
      · have e2 : b = c := by omega
        rw [e2]; exact ho _ (y2 e2)
    obtain ⟨hX1, hX2⟩ := f1 v T hX
    obtain ⟨r1, r2⟩ := z5 v T (fun j j1 j2 j3 => ha j j1 (by omega) (fun t hp => by
      rcases List.mem_append.mp hp with hp | hp
      · exact j3 t hp
      · have := y3 j t hp; omega)) (ht.mo w1' (Nat.le_refl _)) hT1 (fun y9 e => by injection e with e; rw [← e]; exact hb) (fun p t hp => by
        obtain ⟨d, d1, d2, d3⟩ := hH p t (List.mem_append.mpr (Or.inl hp))
        exact ⟨d, d1, by omega, d3⟩) hX1
    obtain ⟨r3, r4⟩ := y5 v T (fun j j1 j2 j3 => ha j (by omega) j2 (fun t hp => by
      rcases List.mem_append.mp hp with hp | hp
      · have := z3 j t hp; omega
      · exact j3 t hp)) (ht.mo (Nat.le_refl _) z1') hT2 ho (fun p t hp => hH p t (List.mem_append.mpr (Or.inr hp))) hX2
    refine ⟨fun i h m L g x i1 i2 e => ?_, fun pl p1 p2 => ?_⟩
    · rcases Nat.lt_or_ge i b with i3 | i3
      · exact r1 i h m L g x i1 i3 e
      · exact r3 i h m L g x i3 i2 e
    · rcases Nat.lt_or_ge pl s with p3 | p3
      · exact r4 pl p1 p3
      · exact r2 pl p3 p2
theorem SG_seqr {h1 : Nat} (y0 : SGc u a b s r H1 z h m L 0 0 (some (h1, m, L, 0, 0))) (y2 : SGc u b c q s H2 z h1 m L 0 0 oo) : SGc u a c q r (H1 ++ H2) z h m L 0 0 oo := SP_to (SP_seqr (P := fun T v => ARc T v a c z m L 0 0) (SP_of y0) (SP_of y2) (fun v T hX => ⟨AR_l hX y2.1.1, AR_r hX y0.1.1 (Nat.le_refl _) (fun _ => rfl)⟩))
theorem recv1 {K : MS → Unit → Prop} {F1 : MS → Int32 → Option (MS × Unit)} {tt : Int} {cc mm m1 kk s1 : Nat} (hPa : PaS N S o 1) (hN : 30000 ≤ N) (hf : f ≤ 120) (hv : CMP v lv cc ps Q o (lo + 1)) (h12 : F v 712 = 0 ∨ F v 714 < 1000000000) (hi1 : n ≤ 8000) (e19 : A v 19 n = ((mm : Nat) : Int)) (hr : ORc v 1 (PPc v f o 1) kk mm (lo + 1) m1 a b q s1) (hb : b ≤ 8000) (hh : m1 ≤ cc) (hQ : s1 ≤ Q) (hla : la ≤ 1) (ht : tt = 0 ∨ tt = 1) (kk2 : ∀ w (ce : Int), RG ce → PCQ v w lv (WBc ps (lo + 1) m1 + 6) 0 m1 q s1 (F w 706 = F v 706 ∧ szc v + 6 ≤ szc w ∧ ∃ Hp : List Nat, CHNc w Hp ce ∧ (∀ p, p ∈ Hp → szc v ≤ p ∧ p < szc w) ∧ ∀ z h m L, z ≤ h → 2 * h ≤ lo + 1 + 16 → NMc v w lv m → L.length ≤ o → (la = 1 → L = []) → SGc w (szc v) (szc w) q s1 (Hp.map (fun p => (p, (h + 1, m, L, 0, 0)))) z (if tt = 1 then h + 1 else h) m L 0 0 (if tt = 1 then some (h, m, L, 0, 0) else none)) → OK K (F1 w (I ce))) :
    OK K (bnd (hm_Co_put N v 31) (fun u38 _ => bnd (hm_Co_put N u38 (I tt)) (fun u4 _ => bnd (hm_Co_put N u4 32) (fun u10 _ => bnd (hm_Co_hook N u10 0) (fun u13 r13 => ck (inb (I ((n : Nat) : Int)) 8016) (bnd (S.2.2.1 u13 (u13.2.2.1 19 (I ((n : Nat) : Int)).toNatClampNeg) (-2) 33 (I ((la : Nat) : Int))) (fun u20 r20 => bnd (hm_Co_put N u20 34) (fun u22 _ => bnd (hm_Co_put N u22 (u4.1 441)) (fun u25 _ => bnd (hm_Co_arrive N u25 r13) (fun u28 _ => F1 u28 r20)))))))))) := by
  have hcs := CMP_c hv
  have cv := hv.1
  have i1 : inb (I ((n : Nat) : Int)) 8016 = true := (I_inb (by omega) (by omega)).mpr ⟨by omega, by omega⟩
  have gp := OR_hd (PP_bd f o 1) hr
  refine put_1 (x := 31) cv.1 ⟨by decide, by decide⟩ (fun w1 e1 => put_B (x := tt) cv.1.1 e1 ⟨by omega, by omega⟩ (fun w2 e2 => put_B (x := 32) cv.1.1 e2 ⟨by decide, by decide⟩ (fun w3 e3 => hook_B (x := 0) cv.1.1 e3 ⟨by decide, by decide⟩ (fun v4 e4 => ?_))))
  have k4 := EMc.km cv e4
  have c4 := k4.2.1
  have e46 : F v4 706 = F v 706 := congrArg _ (e4.1.1 706 (by simp))
  rw [i1, ck_t, tnI (n := n) rfl (by omega), I_A (k := 19), k4.1.A (j := 19) (by simp), e19, ok_bnd]
  have hv4 : CMP v4 lv cc ps Q o (lo + 1) := CMP_k hv k4 (by rw [e46]; exact hv.2.2.2.2) (Nat.le_refl _)
  have h124 : F v4 712 = 0 ∨ F v4 714 < 1000000000 := by
    rcases h12 with z | z
    · exact Or.inl (by rw [k4.2.2.2.2.2.1.1]; exact z)
    · have := k4.2.2.2.1
      exact Or.inr (by omega)
  refine ok_mono (hPa f kk v4 lv cc Q ps mm (lo + 1) m1 a b q s1 la (-2) 33 hf hv4 h124 (OR_k (PP_k k4.1) (PP_bd f o 1) hr (KN_m k4.1)) hb hh hQ hla (Or.inr (Or.inr ⟨rfl, rfl, rfl⟩))) (fun v5 r20 h5 => ?_)
  obtain ⟨ce, rfl, hce, p5⟩ := h5
  have c5 := p5.1.2.1
  have c2r := (EMc.km cv e2).2.1.1
  refine put_1 (x := 34) c5.1 ⟨by decide, by decide⟩ (fun w5 e5 => ?_)
  rw [I_F (k := 441)]
  refine put_B (x := F w2 441) c5.1.1 e5 ⟨by omega, by omega⟩ (fun v6 e6 => ?_)
  have c4r := c4.1
  have k6 := EMc.km c5 e6
  have c6 := k6.2.1
  rw [ok_bnd]
  refine ok_mono (arrive_ok (N := N) (u := v6) (c := F v4 441 - 1) ⟨by omega, by omega⟩ (by omega)) (fun w _ hw => ?_)
  refine kk2 w ce hce ?_
  have e66 : F v6 706 = F v5 706 := congrArg _ (e6.1.1 706 (by simp))
  have q1 := PC_seq (Y := (szc v4 = szc v + 4 ∧ A v5 23 (szc v) = 31 ∧ A v5 23 (szc v + 1) = tt ∧ A v5 23 (szc v + 2) = 32 ∧ A v5 23 (szc v + 3) = 0) ∧ PTYc v4 v5 lv (lo + 1) q s1 o 33 (la = 1) ce) (PC_em (hi := m1) (q := q) cv e4) p5 (Nat.le_refl _) (Nat.le_refl _) (by omega) (fun gd o1 o2 y1 y2 => by
    have s4 : szc v4 = szc v + 4 := y1.1
    have lt : ∀ j, j < 4 → A v5 23 (szc v + j) = A v4 23 (szc v + j) := fun j hj => o2.1 _ (by
      have h5 : (F v4 441).toNat = szc v + 4 := s4
      omega)
    exact ⟨⟨s4, (lt 0 (by omega)).trans (y1.2 0 (by simp)), (lt 1 (by omega)).trans (y1.2 1 (by simp)), (lt 2 (by omega)).trans (y1.2 2 (by simp)), (lt 3 (by omega)).trans (y1.2 3 (by simp))⟩, y2⟩)
  have q2 := PC_seq (Y := ((szc v4 = szc v + 4 ∧ A v6 23 (szc v) = 31 ∧ A v6 23 (szc v + 1) = tt ∧ A v6 23 (szc v + 2) = 32 ∧ A v6 23 (szc v + 3) = 0) ∧ PTYc v4 v5 lv (lo + 1) q s1 o 33 (la = 1) ce) ∧ (szc v6 = szc v5 + 2 ∧ A v6 23 (szc v5) = 34 ∧ A v6 23 (szc v5 + 1) = ((szc v + 2 : Nat) : Int)) ∧ OLQ v5 v6 s1 s1 ∧ GDc v6 m1 s1) q1 (PC_em (hi := m1) (q := s1) c5 e6) (Nat.le_refl _) (by omega) (Nat.le_refl _) (fun gd o1 o2 y1 y2 => by
    have s4 := y1.1.1
    have le := szc_le c4 p5.1
    have cc5 := c5.1
    have lt : ∀ j, j < 4 → A v6 23 (szc v + j) = A v5 23 (szc v + j) := fun j hj => o2.1 _ (by
      have h5 : szc v + 4 ≤ (F v5 441).toNat := by rw [← s4]; exact le
      omega)
    refine ⟨⟨⟨s4, (lt 0 (by omega)).trans y1.1.2.1, (lt 1 (by omega)).trans y1.1.2.2.1, (lt 2 (by omega)).trans y1.1.2.2.2.1, (lt 3 (by omega)).trans y1.1.2.2.2.2⟩, y1.2⟩, ⟨y2.1, y2.2 0 (by simp), ?_⟩, o2, gd⟩
    have : A v6 23 (szc v5 + 1) = F w2 441 := y2.2 1 (by simp)
    rw [this]
    have m1 := p5.1.2.2.1
    have m2 := k6.2.2.1
    have g4 := gd.2.2.1
    have x4 : F v4 441 = F v 441 + 4 := (e4.2.2.2 (by omega)).1
    have x2l : F w2 441 < 24000 := by have := e2.2.1.2.2; have e2l : (([31] ++ [tt]).length : Int) = 2 := rfl; omega
    have x2 : F w2 441 = F v 441 + 2 := (e2.2.2.2 x2l).1
    have cvr := cv.1
    rw [x2]
    show F v 441 + 2 = (((F v 441).toNat + 2 : Nat) : Int)
    omega)
  have e41 : A w 41 lv = A v6 41 lv := by show (w.2.2.1 41 lv).toInt = _; rw [hw.1.2.2.1 41 (by simp)]; rfl
  have esw : szc w = szc v6 := by
    show (F w 441).toNat = (F v6 441).toNat
    rw [show F w 441 = F v6 441 from congrArg _ (hw.1.1 441 (by simp))]
  have e6w : F w 706 = F v6 706 := congrArg _ (hw.1.1 706 (by simp))
  have cvr := cv.1
  have c441 : szc v4 = szc v + 4 → F v4 441 - 1 = ((szc v + 3 : Nat) : Int) := fun s4 => by
    have h5 : (F v4 441).toNat = szc v + 4 := s4
    omega
  have arr : szc v4 = szc v + 4 → szc v4 ≤ szc v5 → A v6 23 (szc v + 3) = 0 → GDc v6 m1 s1 → (∀ p, p ∈ [szc v + 3] → A w 23 p = F v6 441) ∧ ∀ j, j ∉ [szc v + 3] → A w 23 j = A v6 23 j := fun s4 s5 z gd => by
    have g4 := gd.2.2.1
    have m2 := k6.2.2.1
    have h5 : szc v + 4 ≤ (F v5 441).toNat := by rw [← s4]; exact s5
    exact hw.2 [szc v + 3] ⟨c441 s4, ⟨by omega, by omega⟩, fun q hq => absurd hq (by simp), z⟩
  refine PC_w (PC_arr (Y1 := F w 706 = F v 706 ∧ szc v + 6 ≤ szc w ∧ ∃ Hp : List Nat, CHNc w Hp ce ∧ (∀ p, p ∈ Hp → szc v ≤ p ∧ p < szc w) ∧ ∀ z h m L, z ≤ h → 2 * h ≤ lo + 1 + 16 → NMc v w lv m → L.length ≤ o → (la = 1 → L = []) → SGc w (szc v) (szc w) q s1 (Hp.map (fun p => (p, (h + 1, m, L, 0, 0)))) z (if tt = 1 then h + 1 else h) m L 0 0 (if tt = 1 then some (h, m, L, 0, 0) else none)) q2 hw.1 (fun gv y j hj => ?_) (fun gw gv y => ?_)) (by simp; omega) (by omega) (Nat.le_refl _) (fun _ z => z)
  · obtain ⟨⟨⟨s4, -, -, -, w3⟩, -⟩, -, -, gd⟩ := y
    refine (arr s4 (szc_le c4 p5.1) w3 gd).2 j (fun hj2 => ?_)
    simp only [List.mem_singleton] at hj2
    have : j = (F v 441).toNat + 3 := hj2
    omega
  · obtain ⟨⟨⟨s4, w0, w1w, w2w, w3⟩, e56, Hp, ch, hp, ty⟩, ⟨s6, w6, w7⟩, o6, gd⟩ := y
    have le5 := szc_le c4 p5.1
    have ar := arr s4 le5 w3 gd
    have l15 := gd.2.2.2.1
    refine ⟨e6w.trans (e66.trans (e56.trans e46)), by rw [esw, s6]; omega, Hp, CHNc_k (fun p hp2 => ?_) ch, fun p hp2 => ?_, fun z h m L hz h2 nm hL hLa => ?_⟩
    · have := hp p hp2
      rw [ar.2 p (by simp; omega)]
      have h5 : p < (F v5 441).toNat := this.2
      exact o6.1 p (by have := c5.1; omega)
    · have := hp p hp2
      exact ⟨by omega, by rw [esw, s6]; omega⟩
    · obtain ⟨nm1, nm2⟩ := nm
      have a41 := k6.2.2.2.2.2.2.2.2
      have a40 := k4.2.2.2.2.2.2.1 lv (Nat.le_refl _)
      have c58 := c5.2.2.2.2.2.2.2.2
      have a40b := p5.1.2.2.2.2.2.2.1 lv (Nat.le_refl _)
      have hm40 : m ≤ 40 := by omega
      have i1 := ty z h m L (szc v + 2) ⟨by show z + 0 ≤ h; omega, h2, ⟨by rw [a40, e46]; exact nm1, by rw [a40, e46]; omega⟩, hL, hLa, fun _ => by omega, fun z => absurd rfl z⟩
      have ed : h - ddc 33 + 1 = h + 1 := by show h - 0 + 1 = h + 1; omega
      rw [ed, s4] at i1
      have j1 := SG_kw c5 i1 k6.1 o6 (Nat.le_refl _) (Or.inl (Nat.le_refl _))
      have j2 : SGc w (szc v + 4) (szc v5) q s1 (Hp.map (fun p => (p, (h + 1, m, L, 0, 0)))) z h m L 0 (szc v + 2) (some (h, m, L, 0, szc v + 2)) := SG_k j1 (fun j j3 _ _ => ar.2 j (by simp; omega)) (TBL_23 hw.1)
      have wd : ∀ j, j ≠ szc v + 3 → A w 23 j = A v6 23 j := fun j hj => ar.2 j (by simp; exact hj)
      rw [esw, s6]
      refine SG_rcv (n := h) (b := szc v5) hz (by split <;> omega) hm40 (by rw [wd _ (by omega)]; exact w0) ?_ (by rw [wd _ (by omega)]; exact w2w) j2 (by rw [wd _ (by omega)]; exact w6) (by rw [wd _ (by omega)]; exact w7)
      rw [wd _ (by omega), w1w]
      rcases ht with rfl | rfl
      · exact Or.inr ⟨rfl, by simp⟩
      · refine Or.inl ⟨rfl, by simp, ?_, by simp⟩
        rw [ar.1 (szc v + 3) (by simp)]
        have h5 : (F v6 441).toNat = szc v5 + 2 := s6
        have := c6.1
        omega
end
