set_option maxRecDepth 100000
def PPc (u : MS) (f o k n lo hi a b q r : Nat) : Prop := HDc n lo hi a b q r ∧ ∃ m c g m2 c1 s kb mb c2 kg rg ph : Nat, (A u 18 n = ((m : Nat) : Int) ∧ ORc u 1 (PAc u f) k m lo ph a c q q) ∧ (A u 19 n = ((g : Nat) : Int) ∧ ((g = 0 ∧ rg = m2 ∧ s = q) ∨ (1 ≤ g ∧ RWc u 1 (XPc u f (o + 1) 3) kg g rg m2 c c1 q s))) ∧ (A u 20 n = ((mb : Nat) : Int) ∧ RWc u 1 (XPc u f (o + 2) 3) kb mb (m2 + 1) hi c1 c2 s r) ∧ (c ≤ c1 ∧ c2 < n) ∧ (ph ≤ rg ∧ rg ≤ m2 ∧ q ≤ s) ∧ (g ≠ 0 → k ≠ 0 → ph + 1 ≤ rg)
def ddc (th : Int) : Nat := if th = 15 then 1 else 0
def PPRc (u w : MS) (lv lo o : Nat) (th : Int) (la : Prop) (z h m : Nat) (L : List Nat) (x : Nat) : Prop := z + ddc th ≤ h ∧ 2 * h ≤ lo + 16 ∧ NMc u w lv m ∧ L.length ≤ o ∧ (la → L = []) ∧ (th = 33 → x ≠ 0) ∧ (th ≠ 33 → x = 0)
def PTYc (u w : MS) (lv lo q r o : Nat) (th : Int) (la : Prop) (ce : Int) : Prop := F w 706 = F u 706 ∧ ∃ Hp : List Nat, CHNc w Hp ce ∧ (∀ p, p ∈ Hp → szc u ≤ p ∧ p < szc w) ∧ ∀ z h m L x, PPRc u w lv lo o th la z h m L x → SGc w (szc u) (szc w) q r (Hp.map (fun p => (p, (h - ddc th + 1, m, L, 0, 0)))) z h m L 0 x (some (h, m, L, 0, x))
def PaS (N : Nat) (S : SF_Cm_fun) (o k : Nat) : Prop := ∀ (f kk : Nat) (u : MS) (lv cc Q : Nat) (ps : Nat → Nat) (n lo hi a b q r la : Nat) (wh th : Int), f ≤ 120 → CMP u lv cc ps Q o lo → F u 712 = 0 ∨ F u 714 < 1000000000 → ORc u 1 (PPc u f o k) kk n lo hi a b q r → b ≤ 8000 → hi ≤ cc → r ≤ Q → la ≤ 1 → ((wh = -1 ∧ th = 15 ∧ k = 1) ∨ (wh = -1 ∧ th = 0 ∧ k = 0) ∨ (wh = -2 ∧ th = 33 ∧ k = 1)) → OK (fun w r1 => ∃ ce : Int, r1 = I ce ∧ RG ce ∧ PCQ u w lv (WBc ps lo hi) 0 hi q r (PTYc u w lv lo q r o th (la = 1) ce)) (S.2.2.1 u (I ((n : Nat) : Int)) (I wh) (I th) (I ((la : Nat) : Int)))
section
variable {u v w : MS} {N lv t hi lo o q r s c h m g x d a b k n f Q z la : Nat} {ps : Nat → Nat} {S : SF_Cm_fun} {W B wh th ce : Int} {L : List Nat} {H : List (Nat × Tyc)} {oo : Option Tyc} {Y Y1 : Prop}
theorem SG_seqx {x2 m1 h1 : Nat} {H2 : List (Nat × Tyc)} (y0 : SGc u a b q s H z h m L 0 x (some (h1, m1, L, 0, x2))) (y : SGc u b c s r H2 z h1 m1 L 0 x2 oo) (hx : x2 = x ∨ x2 = 0) (hm : m ≤ m1) : SGc u a c q r (H ++ H2) z h m L 0 x oo := by
  have ab := y0.1.1
  have bc := y.1.1
  refine SP_to (SP_seq (P := fun T v => ARc T v a c z m L 0 x) (SP_of y0) (SP_of y) (fun v T hA hTa hTb hTc hH hX => ⟨AR_l hX bc, ?_⟩))
  have X := AR_r hX ab hm (fun z => absurd rfl z)
  rcases hx with rfl | rfl
  · exact X
  · have := X.1.1
    exact ⟨X.1, X.2.1, fun z => absurd rfl z, by omega, fun z => by omega⟩
theorem PP_bd (f o k : Nat) : BdE (PPc u f o k) := fun _ _ _ _ _ _ _ h => h.1
theorem PP_k (hk : KMF u w) : StE u w (PPc u f o k) (PPc w f o k) := fun n lo hi a b q r h _ => by
  obtain ⟨hd, m, c, g, m2, c1, s, kb, mb, c2, kg, rg, ph, h18, h19, h20, h⟩ := h
  refine ⟨hd, m, c, g, m2, c1, s, kb, mb, c2, kg, rg, ph, ⟨by rw [hk.A (by simp)]; exact h18.1, OR_k (PA_k (Nat.le_refl _)) (PA_bd f) h18.2 (KN_m hk)⟩, ⟨by rw [hk.A (by simp)]; exact h19.1, ?_⟩, ⟨by rw [hk.A (by simp)]; exact h20.1, RW_k (XP_k (Nat.le_refl _) (Nat.le_refl _)) (XP_bd f (o + 2) 3) h20.2 (KN_m hk)⟩, h⟩
  rcases h19.2 with z | ⟨z1, z2⟩
  · exact Or.inl z
  · exact Or.inr ⟨z1, RW_k (XP_k (Nat.le_refl _) (Nat.le_refl _)) (XP_bd f (o + 1) 3) z2 (KN_m hk)⟩
theorem partC_ok {cc : Nat} {K : MS → Int32 → Prop} {G : MS → Int32 → Int32 → Int32 → Int32 → Int32 → Option (MS × Int32)} (hT : TrS N S o) (hB : BoS N S (o + 2)) (hN : 30000 ≤ N) (hf : f ≤ 120) (hu : CMP u lv cc ps Q o lo) (h12 : F u 712 = 0 ∨ F u 714 < 1000000000) (hX : PPc u f o k n lo hi a b q r) (hb : b ≤ 8000) (hh : hi ≤ cc) (hQ : r ≤ Q) (hla : la ≤ 1) (hw : (wh = -1 ∧ th = 15 ∧ k = 1) ∨ (wh = -1 ∧ th = 0 ∧ k = 0) ∨ (wh = -2 ∧ th = 33 ∧ k = 1)) (hce : RG ce) (kk : ∀ w (pj : Int), RG pj → KMF u w → PCQ u w lv (WBc ps lo hi) 0 hi q r (F w 706 = F u 706 ∧ ∃ p : Nat, pj = ((p : Nat) : Int) ∧ (szc u ≤ p ∧ p < szc w) ∧ A w 23 p = ce ∧ ∀ z h m L x, PPRc u w lv lo o th (la = 1) z h m L x → SGc w (szc u) (szc w) q r [(p, (h - ddc th + 1, m, L, 0, 0))] z h m L 0 x (some (h, m, L, 0, x))) → OK K (G w (I wh) (I th) (I ((la : Nat) : Int)) (I pj) (I (A u 21 n)))) :
    OK K (bnd (S.2.2.2.2.2.2.2.2.2.2.2.1 u (I wh) (I ((n : Nat) : Int))) (fun u23 r23 => br (decide (I th = 0)) (hb_Cm_parts_38 N S G u23 (I wh) (I th) (I ((la : Nat) : Int)) (I ce) (I ((n : Nat) : Int)) (I (F u 706)) r23) (bnd (hm_Co_put N u23 (I th)) (fun u25 _ => hb_Cm_parts_38 N S G u25 (I wh) (I th) (I ((la : Nat) : Int)) (I ce) (I ((n : Nat) : Int)) (I (F u 706)) r23)))) := by
  have hcs := CMP_c hu
  have cu := hu.1
  obtain ⟨hd, m, c, g, m2, c1, s, kb, mb, c2, kg, rg, ph, h18, h19, h20, ⟨hcc1, hc2n⟩, ⟨hpr, hrm, hqs⟩, hgk⟩ := hX
  unfold HDc at hd
  have gp := OR_hd (PA_bd f) h18.2
  have gb := (RW_hd (XP_bd f (o + 2) 3) h20.2).1
  unfold HDc at gb
  have i1 : inb (I ((n : Nat) : Int)) 8016 = true := (I_inb (by omega) (by omega)).mpr ⟨by omega, by omega⟩
  have wb : WBc ps lo ph + WBc ps rg m2 + WBc ps (m2 + 1) hi + 12 * ((rg - ph : Nat) : Int) + 12 ≤ WBc ps lo hi := by
    have w1 := WB_2 hcs.1 (lo := lo) (m := ph) (lo2 := rg) (hi := m2) (by omega) (by omega) (by omega) (by omega)
    have w2 := WB_2 hcs.1 (lo := lo) (m := m2) (lo2 := m2 + 1) (hi := hi) (by omega) (by omega) (by omega) (by omega)
    omega
  have hu6 := hu.2.2.2.2
  have dth : ddc th = (if th = 15 then 1 else 0) := rfl
  rw [ok_bnd]
  refine ok_mono (hT f k kg g m u lv cc Q ps n lo ph rg m2 m2 a c c1 q s wh hf (CMP_m hu (Nat.le_refl _) (by omega)) hu6 (by omega) h18 h19 hpr hrm (Nat.le_refl _) (by omega) (by omega) (fun _ => by omega) (by omega) ⟨by omega, by omega⟩) (fun v r1 hv => ?_)
  obtain ⟨ch, rfl, hch, pv⟩ := hv
  have cv := pv.1.2.1
  have pv6 := pv.2.1
  have e38 : ∀ (v1 : MS) (l : List Int), EMc v v1 l → ((l = [] ∧ th = 0) ∨ (l = [th] ∧ th ≠ 0)) → OK K (hb_Cm_parts_38 N S G v1 (I wh) (I th) (I ((la : Nat) : Int)) (I ce) (I ((n : Nat) : Int)) (I (F u 706)) (I ch)) := fun v1 l e3 hl => by
    have k1 := EMc.km cv e3
    have kf1 := KMF.tr pv.1.1 k1.1
    have e16 : F v1 706 = F v 706 := congrArg _ (e3.1.1 706 (by simp))
    unfold hb_Cm_parts_38
    rw [i1, ck_t, tnI (n := n) rfl (by omega), I_A (k := 20), kf1.A (j := 20) (by simp), h20.1, ok_bnd]
    have hv1 : CMP v1 lv cc ps Q (o + 2) (m2 + 1) := CMP_k hu (KMc.tr pv.1 k1) (by rw [e16]; omega) (by omega)
    refine ok_mono (hB f kb v1 lv cc Q ps mb (m2 + 1) hi c1 c2 s r la hf hv1 (RW_k (XP_k (Nat.le_refl _) (Nat.le_refl _)) (XP_bd f (o + 2) 3) h20.2 (KN_m kf1)) (by omega) hh hQ hla) (fun v2 _ p2 => ?_)
    have c2v := p2.1.2.1
    have b6 := p2.2.1
    have q1 := PC_seq (Y := (szc v1 = szc v + l.length ∧ ∀ j, j < l.length → A v1 23 (szc v + j) = l.getD j 0) ∧ OLQ v v1 s s ∧ TRYc u v lv lo q s o k wh ch) pv (PC_em (hi := m2) (q := s) cv e3) (Nat.le_refl _) hqs (Nat.le_refl _) (fun gd o1 o2 y1 y2 => ⟨y2, o2, y1⟩)
    have q2 := PC_seq (Y := ((szc v1 = szc v + l.length ∧ ∀ j, j < l.length → A v1 23 (szc v + j) = l.getD j 0) ∧ OLQ v v1 s s ∧ TRYc u v lv lo q s o k wh ch) ∧ OLQ v1 v2 s r ∧ TYX v1 v2 lv (m2 + 1) s r (o + 2) (la = 1) 1) q1 p2 (by omega) hqs (by omega) (fun gd o1 o2 y1 y2 => ⟨y1, o2, y2⟩)
    have e40 := q2.1.2.2.2.2.2.2.1 lv (Nat.le_refl _)
    have c40 := cu.2.2.2.2.2.2.2.1
    refine forget_B c2v (by omega) (by omega) (fun v3 l3 k3 e36 f3 em3 hl3 => ?_)
    have q3 := PC_fgt (Y1 := (((szc v1 = szc v + l.length ∧ ∀ j, j < l.length → A v1 23 (szc v + j) = l.getD j 0) ∧ OLQ v v1 s s ∧ TRYc u v lv lo q s o k wh ch) ∧ OLQ v1 v2 s r ∧ TYX v1 v2 lv (m2 + 1) s r (o + 2) (la = 1) 1) ∧ OLQ v2 v3 r r ∧ (∀ z h m L g x, z ≤ h → h ≤ 1090 → m ≤ 40 → (F v2 706 - F u 706).toNat ≤ m → ((F v2 706 - F u 706).toNat = 0 ∨ g = 0) → SGc v3 (szc v2) (szc v3) r r [] z h m L g x (some (h, m - (F v2 706 - F u 706).toNat, L, g, x)))) k3 e36 f3 em3 hl3 q2 (Int.le_refl _) (by omega) (fun gw gv ol y fg => ⟨y, ol, fg⟩)
    have c3v := k3.2.1
    refine put_1 (x := 18) c3v.1 ⟨by decide, by decide⟩ (fun w1 e4 => hook_B (x := ce) c3v.1.1 e4 hce (fun v4 e5 => ?_))
    have k4 := EMc.km c3v e5
    have c4v := k4.2.1
    have e46 : F v4 706 = F v3 706 := congrArg _ (e5.1.1 706 (by simp))
    have q4 := PC_seq (Y := ((((szc v1 = szc v + l.length ∧ ∀ j, j < l.length → A v1 23 (szc v + j) = l.getD j 0) ∧ OLQ v v1 s s ∧ TRYc u v lv lo q s o k wh ch) ∧ OLQ v1 v2 s r ∧ TYX v1 v2 lv (m2 + 1) s r (o + 2) (la = 1) 1) ∧ OLQ v2 v3 r r ∧ (∀ z h m L g x, z ≤ h → h ≤ 1090 → m ≤ 40 → (F v2 706 - F u 706).toNat ≤ m → ((F v2 706 - F u 706).toNat = 0 ∨ g = 0) → SGc v3 (szc v2) (szc v3) r r [] z h m L g x (some (h, m - (F v2 706 - F u 706).toNat, L, g, x)))) ∧ (szc v4 = szc v3 + 2 ∧ A v4 23 (szc v3) = 18 ∧ A v4 23 (szc v3 + 1) = ce) ∧ OLQ v3 v4 r r ∧ GDc v4 hi r) q3 (PC_em (hi := hi) (q := r) c3v e5) (Nat.le_refl _) (by omega) (Nat.le_refl _) (fun gd o1 o2 y1 y2 => ⟨y1, ⟨y2.1, y2.2 0 (by simp), y2.2 1 (by simp)⟩, o2, gd⟩)
    rw [ok_bnd]
    refine ok_mono (arrive_ok (N := N) (u := v4) hch (by omega)) (fun w _ hw5 => ?_)
    have kuv4 := q4.1
    have k5 := KM_23 c4v hw5.1
    have kuw := KMc.tr kuv4 k5
    rw [ck_t, I_A (k := 21), kuw.1.A (j := 21) (by simp)]
    have e6w : F w 706 = F u 706 := ((congrArg _ (hw5.1.1 706 (by simp)) : F w 706 = F v4 706).trans e46).trans e36
    have c4r := c4v.1
    refine kk w (F v4 441 - 1) ⟨by omega, by omega⟩ kuw.1 ?_
    have chn : TRYc u v lv lo q s o k wh ch → OLQ v v1 s s → OLQ v1 v2 s r → OLQ v2 v3 r r → OLQ v3 v4 r r → ∃ Hp, CHNc v4 Hp ch ∧ (∀ p, p ∈ Hp → szc u ≤ p ∧ p < szc v) ∧ ∀ z h m L x, TPRc u v lv lo o k wh z h m L x → SGc v (szc u) (szc v) q s (Hp.map (fun p => (p, (h, m, L, 0, x)))) z h m L 0 x (some (h, m + knc u v, L, 0, x)) := fun ⟨Hp, c1, c2, _, c3⟩ o1 o2 o3 o4 => by
      refine ⟨Hp, CHNc_k (fun p hp => ?_) c1, c2, c3⟩
      have hp2 : p < (F v 441).toNat := (c2 p hp).2
      have hcv := cv.1
      have f1 := k1.2.2.1
      have f2 := p2.1.2.2.1
      have f3 := k3.2.2.1
      rw [o4.1 p (by omega), o3.1 p (by omega), o2.1 p (by omega), o1.1 p (by omega)]
    have ll : ((l.length : Nat) : Int) ≤ 1 ∧ (l.length = 0 ∨ th ≠ 0) := by
      rcases hl with ⟨rfl, -⟩ | ⟨rfl, z⟩
      · exact ⟨by simp, Or.inl rfl⟩
      · exact ⟨by simp, Or.inr z⟩
    refine PC_w (PC_arr (Y1 := F w 706 = F u 706 ∧ ∃ p : Nat, F v4 441 - 1 = ((p : Nat) : Int) ∧ (szc u ≤ p ∧ p < szc w) ∧ A w 23 p = ce ∧ ∀ z h m L x, PPRc u w lv lo o th (la = 1) z h m L x → SGc w (szc u) (szc w) q r [(p, (h - ddc th + 1, m, L, 0, 0))] z h m L 0 x (some (h, m, L, 0, x))) (t := 0) ⟨q4.1, ?_, q4.2.2.1, q4.2.2.2⟩ hw5.1 (fun gv y j hj => ?_) (fun gw gv y => ⟨e6w, ?_⟩)) ?_ (Nat.le_refl _) (Nat.le_refl _) (fun _ z => z)
    · rw [e46, e36]; omega
    · obtain ⟨⟨⟨⟨-, o1, ty⟩, o2, -⟩, o3, -⟩, -, o4, -⟩ := y
      obtain ⟨Hp, c1, c2, -⟩ := chn ty o1 o2 o3 o4
      refine (hw5.2 Hp c1).2 j (fun hj2 => ?_)
      have : (F u 441).toNat ≤ j := (c2 j hj2).1
      omega
    · obtain ⟨⟨⟨⟨⟨s1, w0⟩, o1, ty⟩, o2, yb⟩, o3, fg⟩, ⟨s4, w4, w4b⟩, o4, gd⟩ := y
      obtain ⟨Hp, ch1, hp1, tyt⟩ := chn ty o1 o2 o3 o4
      have ar := hw5.2 Hp ch1
      have uv := szc_le cu pv.1
      have vv1 := szc_le cv k1
      have v12 := szc_le k1.2.1 p2.1
      have v23 := szc_le c2v k3
      have esw : szc w = szc v4 := by
        show (F w 441).toNat = (F v4 441).toNat
        rw [show F w 441 = F v4 441 from congrArg _ (hw5.1.1 441 (by simp))]
      have pj : F v4 441 - 1 = ((szc v3 + 1 : Nat) : Int) := by
        have h5 : (F v4 441).toNat = szc v3 + 2 := s4
        omega
      have npj : szc v3 + 1 ∉ Hp := fun hp => by have := (hp1 _ hp).2; omega
      refine ⟨szc v3 + 1, pj, ⟨by omega, by rw [esw]; omega⟩, by rw [ar.2 _ npj]; exact w4b, fun z h m L x pp => ?_⟩
      have l15 := gd.2.2.2.1
      obtain ⟨pz, ph2, ⟨nm1, nm2⟩, pL, pla, px1, px2⟩ := pp
      have a41z : A w 41 lv = A v4 41 lv := by show (w.2.2.1 41 lv).toInt = _; rw [hw5.1.2.2.1 41 (by simp)]; rfl
      have a41a := k1.2.2.2.2.2.2.2.2
      have a41b := p2.1.2.2.2.2.2.2.2.2
      have a41c := k3.2.2.2.2.2.2.2.2
      have a41d := k4.2.2.2.2.2.2.2.2
      have a40 := pv.1.2.2.2.2.2.2.1 lv (Nat.le_refl _)
      have a40b := k1.2.2.2.2.2.2.1 lv (Nat.le_refl _)
      have a40c := q2.1.2.2.2.2.2.2.1 lv (Nat.le_refl _)
      have kn : ((knc u v : Nat) : Int) = F v 706 - F u 706 := by show (((F v 706 - F u 706).toNat : Nat) : Int) = _; omega
      have kn2 : ((knc v1 v2 : Nat) : Int) = F v2 706 - F v1 706 := by show (((F v2 706 - F v1 706).toNat : Nat) : Int) = _; omega
      have c28 := c2v.2.2.2.2.2.2.2.2
      have hm40 : m + knc u v + knc v1 v2 ≤ 40 := by omega
      have u12 : F u 712 = 0 := by
        rcases h12 with h12 | h12
        · exact h12
        · have := kuv4.2.2.2.1
          have := gd.1
          omega
      have h12b : F v1 712 = 0 := by rw [k1.2.2.2.2.2.1.1, pv.1.2.2.2.2.2.1.1]; exact u12
      have i1 := tyt z h m L x ⟨by omega, ph2, ⟨nm1, by omega⟩, pL, by
        rcases hw with ⟨z1, z2, -⟩ | ⟨-, -, z3⟩ | ⟨z1, z2, -⟩
        · have : ddc th = 1 := by rw [dth, if_pos z2]
          exact Or.inr (Or.inr (Or.inl ⟨z1, by omega⟩))
        · exact Or.inl z3
        · exact Or.inr (Or.inr (Or.inr ⟨z1, px1 z2⟩))⟩
      have i2 : SGc v1 (szc v) (szc v1) s s [] z h (m + knc u v) L 0 x (some (h - ddc th, m + knc u v, L, 0, 0)) := by
        rw [s1]
        rcases hw with ⟨-, z2, -⟩ | ⟨-, z2, -⟩ | ⟨-, z2, -⟩
        · rcases hl with ⟨-, z3⟩ | ⟨rfl, -⟩
          · omega
          · have x0 := px2 (by omega)
            subst x0
            rw [show ddc th = 1 by rw [dth, if_pos z2]] at pz ⊢
            exact SG_drop (by omega) (by omega) (by omega) ((w0 0 (by simp)).trans z2) (by omega)
        · rcases hl with ⟨rfl, -⟩ | ⟨-, z3⟩
          · have x0 := px2 (by omega)
            subst x0
            rw [show ddc th = 0 by rw [dth, if_neg (by omega)]]
            exact SG_nl
          · omega
        · rcases hl with ⟨-, z3⟩ | ⟨rfl, -⟩
          · omega
          · rw [show ddc th = 0 by rw [dth, if_neg (by omega)]] at pz ⊢
            exact SG_take (by omega) (by omega) (by omega) ((w0 0 (by simp)).trans z2) ⟨rfl, px1 z2⟩
      obtain ⟨-, i3⟩ := yb (h - ddc th) (m + knc u v) L 0 0 ⟨by omega, ⟨by rw [a40b, a40, e16]; omega, by rw [a40b, a40, e16]; omega⟩, by omega, pla, ⟨fun z => absurd rfl z, fun z => by rw [h12b] at z; exact absurd z (by decide)⟩, fun _ => rfl⟩
      have i4 := fg z (h - ddc th + 1) (m + knc u v + knc v1 v2) L 0 0 (by omega) (by omega) hm40 (by omega) (Or.inr rfl)
      rw [show m + knc u v + knc v1 v2 - (F v2 706 - F u 706).toNat = m by omega] at i4
      have i5 := SG_jump (u := v4) (a := szc v3) (q := r) (z := z) (h := h - ddc th + 1) (m := m) (L := L) (g := 0) (x := 0) (by omega) (by omega) (by omega) w4
      rw [← s4] at i5
      have j1 := SG_kw cv i1 k1.1 o1 (Nat.le_refl _) (Or.inl (Nat.le_refl _))
      have j12 := SG_seqx j1 i2 (Or.inl rfl) (by omega)
      have j12' := SG_kw k1.2.1 j12 p2.1.1 o2 (Nat.le_refl _) (Or.inl (Nat.le_refl _))
      have j13 := SG_seqx j12' (SG_z (z2 := z) i3 (by omega)) (Or.inr rfl) (by omega)
      have j13' := SG_kw c2v j13 k3.1 o3 (Nat.le_refl _) (Or.inl (Nat.le_refl _))
      have j14 := SG_seqx j13' i4 (Or.inr rfl) (by omega)
      have j14' := SG_kw c3v j14 k4.1 o4 (Nat.le_refl _) (Or.inl (Nat.le_refl _))
      have j15 := SG_seqx j14' i5 (Or.inr rfl) (Nat.le_refl _)
      rw [List.append_nil, List.append_nil, List.append_nil] at j15
      refine SG_arc (lv := lv) (H2 := [(szc v3 + 1, (h - ddc th + 1, m, L, 0, 0))]) (Hp := Hp) c4v hw5.1 ar j15 (by omega) (Or.inl rfl) (fun p t hp => ?_) (fun p hp => ?_) (fun p t t2 hp hp2 => ?_)
      · obtain ⟨p2, hp2, h5⟩ := List.mem_map.mp hp
        injection h5 with h6 h7
        exact ⟨h7.symm, h6 ▸ hp2⟩
      · exact ⟨_, List.mem_map.mpr ⟨p, hp, rfl⟩⟩
      · obtain ⟨p3, hp3, h5⟩ := List.mem_map.mp hp
        injection h5 with h6 h7
        simp only [List.mem_singleton] at hp2
        injection hp2 with h8 h9
        exact npj (h8 ▸ h6 ▸ hp3)
    · have : (if g = 0 then (0 : Int) else 5) ≤ 12 * ((rg - ph : Nat) : Int) ∨ k = 0 := by
        by_cases z : g = 0
        · rw [if_pos z]; exact Or.inl (by omega)
        · rw [if_neg z]
          by_cases z2 : k = 0
          · exact Or.inr z2
          · have := hgk z z2; exact Or.inl (by omega)
      have h5 : (if g = 0 then (0 : Int) else 5) ≤ 5 := by split <;> omega
      simp only [List.length_append, List.length_cons, List.length_nil]
      rcases hw with ⟨-, z2, z3⟩ | ⟨-, z2, z3⟩ | ⟨-, z2, z3⟩
      · rw [if_neg (by omega)]; omega
      · rw [if_pos z3]
        have : l.length = 0 := by rcases ll.2 with z | z <;> omega
        omega
      · rw [if_neg (by omega)]; omega
  refine ok_br.mpr ⟨fun zt => ?_, fun zt => ?_⟩
  · have : th = 0 := by
      rcases hw with ⟨-, z2, -⟩ | ⟨-, z2, -⟩ | ⟨-, z2, -⟩
      · rw [z2] at zt; exact absurd zt (by decide)
      · exact z2
      · rw [z2] at zt; exact absurd zt (by decide)
    exact e38 v [] (EMc.nl cv.1.2) (Or.inl ⟨rfl, this⟩)
  · have : th ≠ 0 := fun z => by rw [z] at zt; exact absurd zt (by decide)
    exact put_1 (x := th) cv.1 ⟨by omega, by omega⟩ (fun v1 e1 => e38 v1 [th] e1 (Or.inr ⟨rfl, this⟩))
theorem partsX_ok {cc : Nat} (hT : TrS N S o) (hB : BoS N S (o + 2)) (hN : 30000 ≤ N) (hf : f ≤ 120) (hu : CMP u lv cc ps Q o lo) (h12 : F u 712 = 0 ∨ F u 714 < 1000000000) (hla : la ≤ 1) (hw : (wh = -1 ∧ th = 15 ∧ k = 1) ∨ (wh = -1 ∧ th = 0 ∧ k = 0) ∨ (wh = -2 ∧ th = 33 ∧ k = 1)) : ∀ (kk M n x hi a b q2 r : Nat) (ce : Int) (v : MS), RWc v 1 (PPc v f o k) kk n x hi a b q2 r → PCQ u v lv (WBc ps lo x) 0 x q q2 (PTYc u v lv lo q q2 o th (la = 1) ce) → lo ≤ x → q ≤ q2 → RG ce → b ≤ 8000 → hi ≤ cc → r ≤ Q → kk + 1 ≤ M → OK (fun w r1 => ∃ ce : Int, r1 = I ce ∧ RG ce ∧ PCQ u w lv (WBc ps lo hi) 0 hi q r (PTYc u w lv lo q r o th (la = 1) ce)) (hg_Cm_parts N S M v (I wh) (I th) (I ((la : Nat) : Int)) (I ce) (I ((n : Nat) : Int)))
  | 0, _, _, _, _, _, _, _, _, _, _, h, _, _, _, _, _, _, _, _ => h.elim
  | kk + 1, M, n, x, hi, a, b, q2, r, ce, v, h, pv, hlx, hqq, hce, hb, hh, hQ, hM => by
    obtain ⟨M, rfl⟩ : ∃ M2, M = M2 + 1 + 1 := ⟨M - 2, by omega⟩
    show OK _ (hb_Cm_parts_6 N S (hg_Cm_parts N S (M + 1)) v (I wh) (I th) (I ((la : Nat) : Int)) (I ce) (I ((n : Nat) : Int)))
    obtain ⟨m, c2, s, e, h⟩ := h
    have he := PP_bd f o k _ _ _ _ _ _ _ e
    unfold HDc at he
    have hms : m ≤ hi ∧ c2 ≤ b ∧ s ≤ r := by
      rcases h with ⟨-, -, h1, h2, h3⟩ | ⟨-, n2, -, h3⟩
      · omega
      · have := (RW_hd (PP_bd f o k) h3).1; unfold HDc at this; omega
    have hcs := CMP_c hu
    have cv := pv.1.2.1
    have pv6 := pv.2.1
    unfold hb_Cm_parts_6
    refine k_c (y := 0) rfl ⟨by omega, by omega⟩ ⟨by decide, by decide⟩ (fun z => absurd z (by omega)) (fun _ => ?_)
    rw [I_F (k := 706)]
    have h12v : F v 712 = 0 ∨ F v 714 < 1000000000 := by
      rcases h12 with z | z
      · exact Or.inl (by rw [pv.1.2.2.2.2.2.1.1]; exact z)
      · have := pv.1.2.2.2.1
        exact Or.inr (by omega)
    refine partC_ok (k := k) (f := f) (o := o) (lo := x) (hi := m) (a := a) (b := c2) (q := q2) (r := s) (lv := lv) (Q := Q) (ps := ps) hT hB hN hf (CMP_k hu pv.1 (by have := hu.2.2.2.2; omega) (Nat.le_refl _)) h12v e (by clear h; omega) (by clear h; omega) (by clear h; omega) hla hw hce (fun w pj hpj kw pw => ?_)
    have wb := WB_2 hcs.1 (lo := lo) (m := x) (lo2 := x) (hi := m) (by omega) (by omega) (by omega) (by clear h; omega)
    have p2 : PCQ u w lv (WBc ps lo m) 0 m q s (PTYc u w lv lo q s o th (la = 1) pj) := by
      refine PC_w (PC_seq pv pw (by omega) hqq (by omega) (fun gd o1 o2 y1 y2 => ?_)) (by omega) (by omega) (Nat.le_refl _) (fun _ z => z)
      obtain ⟨e6, Hp, ch, hp, ty⟩ := y1
      obtain ⟨e6b, p, z1, z2, z3, tw⟩ := y2
      have uv := szc_le hu.1 pv.1
      have vw := szc_le cv pw.1
      have cu1 := hu.1.1
      refine ⟨e6b.trans e6, p :: Hp, ⟨z1, ⟨?_, ?_⟩, fun p2 hp2 => by have := (hp p2 hp2).2; omega, ?_⟩, fun p2 hp2 => ?_, fun z h m L x0 pp => ?_⟩
      · have : (F u 441).toNat ≤ szc v := uv
        omega
      · have h5 := gd.2.2.1
        have h6 : p < (F w 441).toNat := z2.2
        omega
      · rw [z3]
        exact CHNc_k (fun p2 hp2 => o2.1 p2 (by have h5 : p2 < (F v 441).toNat := (hp p2 hp2).2; omega)) ch
      · simp only [List.mem_cons] at hp2
        rcases hp2 with rfl | hp2
        · exact ⟨by omega, z2.2⟩
        · have := hp p2 hp2
          exact ⟨this.1, by omega⟩
      · obtain ⟨p1, p2, ⟨p3, p4⟩, p5⟩ := pp
        have a41 := pw.1.2.2.2.2.2.2.2.2
        have a40 := pv.1.2.2.2.2.2.2.1 lv (Nat.le_refl _)
        have i1 := ty z h m L x0 ⟨p1, p2, ⟨p3, by omega⟩, p5⟩
        have i2 := tw z h m L x0 ⟨p1, by omega, ⟨by rw [a40, e6]; exact p3, by rw [a40, e6]; exact p4⟩, p5⟩
        have j1 := SG_kw cv i1 pw.1.1 o2 (Nat.le_refl _) (Or.inl (Nat.le_refl _))
        have j := SG_seq j1 i2 (Nat.le_refl _) (fun _ => rfl)
        refine SG_pm (fun p t => ?_) j
        simp only [List.mem_append, List.map_cons, List.mem_cons, List.not_mem_nil, or_false]
        exact Or.comm
    rcases h with ⟨k0, h0, rfl, rfl, rfl⟩ | ⟨-, n2, h2, h3⟩
    · rw [h0]
      show OK _ (hb_Cm_parts_6 N S (hg_Cm_parts N S M) w (I wh) (I th) (I ((la : Nat) : Int)) (I pj) (I 0))
      unfold hb_Cm_parts_6
      exact k_c (y := 0) rfl ⟨by decide, by decide⟩ ⟨by decide, by decide⟩ (fun _ => ok_some.mpr ⟨pj, rfl, hpj, p2⟩) (fun z => absurd rfl z)
    · rw [h2]
      have g1 := (RW_hd (PP_bd f o k) h3).1
      unfold HDc at g1
      have wb2 := WB_1 hcs.1 (lo := lo) (lo2 := lo) (hi2 := m) (hi := m + 1) (by omega) (by omega) (by omega) (by omega)
      refine partsX_ok hT hB hN hf hu h12 hla hw kk (M + 1) n2 (m + 1) hi c2 b s r pj w (RW_k (PP_k kw) (PP_bd f o k) h3 (KN_m kw)) (PC_w p2 (by omega) (by omega) (by omega) (fun _ z => z)) (by omega) (by omega) hpj hb hh hQ (by omega)
theorem partsC_ok (hT : TrS N S o) (hB : BoS N S (o + 2)) (hN : 30000 ≤ N) {S2 : SF_Cm_fun} (h2 : S2.2.2.1 = hm_Cm_parts N S) : PaS N S2 o k := by
  intro f kk u lv cc Q ps n lo hi a b q r la wh th hf hu h12 h hb hh hQ hla hw
  rw [h2]
  unfold hm_Cm_parts hb_Cm_parts_0
  have p0 : PCQ u u lv (WBc ps lo lo) 0 lo q q (PTYc u u lv lo q q o th (la = 1) 0) := PC_w (PC_rf (hi := lo) (q := q) hu.1) (by unfold WBc; simp) (Nat.le_refl _) (Nat.le_refl _) (fun _ _ => ⟨rfl, [], rfl, fun p hp => absurd hp (by simp), fun z h m L x pp => SG_nl⟩)
  rcases h with ⟨rfl, rfl, rfl, rfl, rfl⟩ | ⟨h1, h⟩
  · obtain ⟨N, rfl⟩ : ∃ N2, N = N2 + 1 := ⟨N - 1, by omega⟩
    show OK _ (hb_Cm_parts_6 (N + 1) S (hg_Cm_parts (N + 1) S N) u (I wh) (I th) (I ((la : Nat) : Int)) (I 0) (I 0))
    unfold hb_Cm_parts_6
    exact k_c (y := 0) rfl ⟨by decide, by decide⟩ ⟨by decide, by decide⟩ (fun _ => ok_some.mpr ⟨0, rfl, ⟨by decide, by decide⟩, p0⟩) (fun z => absurd rfl z)
  · have := RW_cnt (PP_bd f o k) h
    exact partsX_ok hT hB hN hf hu h12 hla hw kk N n lo hi a b q r 0 u h p0 (Nat.le_refl _) (Nat.le_refl _) ⟨by decide, by decide⟩ hb hh hQ (by omega)
end
