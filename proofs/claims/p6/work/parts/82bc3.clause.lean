set_option maxRecDepth 100000
def NMc (u w : MS) (lv m : Nat) : Prop := F u 706 - A u 40 lv ≤ ((m : Nat) : Int) ∧ ((m : Nat) : Int) + A w 41 lv ≤ 40 + (F u 706 - A u 40 lv)
def ClS (N : Nat) (S : SF_Cm_fun) (o : Nat) : Prop := ∀ (f k : Nat) (u : MS) (lv cc Q : Nat) (ps : Nat → Nat) (n pl ph r0 hi a b q r : Nat) (line : Int), f ≤ 120 → CMP u lv cc ps Q (o + 1) pl → F u 712 = 0 → PRTc u (PAc u f) (XPc u f (o + 2) 3) (XPc u f (o + 1) 3) k n pl ph r0 hi a b q r → ph ≤ r0 → b ≤ 8000 → hi ≤ cc → r ≤ Q → k ≤ 6 → RG line → OK (fun w _ => PCQ u w lv (WBc ps pl hi - 12 * ((r0 - ph : Nat) : Int) - 4) 0 hi q r (F w 706 = F u 706 ∧ szc u < szc w ∧ ∀ m, NMc u w lv m → SGc w (szc u) (szc w) q r [] 0 k m [] 0 0 (some (k, m, [], 0, 0)))) (S.2.2.2.2.2.2.2.2.2.2.2.2 u (I ((n : Nat) : Int)) (I ((k : Nat) : Int)) (I line))
section
variable {u v w : MS} {N lv t hi lo o q r s c h m g x d a b k n f Q z : Nat} {ps : Nat → Nat} {S : SF_Cm_fun} {W B wh : Int} {L : List Nat} {H : List (Nat × Tyc)} {oo : Option Tyc} {Y Y1 : Prop}
theorem PC_706 {m0 : Int} (p : PCQ u v lv W t hi q r Y) (h1 : m0 = F u 706) (hc : A u 40 lv ≤ m0) : PCQ u (wi v 706 m0) lv W 0 hi q r Y := by
  have cv := p.1.2.1
  have hr : RG m0 := by rw [h1]; exact FRG1 u 706
  have e40 := p.1.2.2.2.2.2.2.1 lv (Nat.le_refl _)
  have h6 := p.2.1
  have km := top_km (m := m0) cv (by omega) (by omega)
  have ev : ∀ j, j ≠ 706 → F (wi v 706 m0) j = F v j := fun j hj => by rw [F_wi hr.1 hr.2, if_neg hj]
  have e6 : F (wi v 706 m0) 706 = m0 := by rw [F_wi hr.1 hr.2, if_pos rfl]
  refine ⟨KMc.tr p.1 km, by rw [e6]; omega, fun z => by rw [ev 711 (by decide)] at z; rw [ev 441 (by decide)]; exact p.2.2.1 z, fun gd => ?_⟩
  have gv : GDc v hi r := by
    unfold GDc at gd ⊢
    rw [ev 714 (by decide), ev 711 (by decide), ev 441 (by decide)] at gd
    exact gd
  obtain ⟨o1, y⟩ := p.2.2.2 gv
  exact ⟨⟨o1.1, o1.2⟩, y⟩
theorem clauseC_ok (hT : TrS N S o) (hB : BoS N S (o + 2)) (hN : 30000 ≤ N) {S2 : SF_Cm_fun} (h2 : S2.2.2.2.2.2.2.2.2.2.2.2.2 = hm_Cm_clause N S) : ClS N S2 o := by
  intro f k u lv cc Q ps n pl ph r0 hi a b q r line hf hu h12 hX hpr hb hh hQ hk hline
  rw [h2]
  have hcs := CMP_c hu
  have cu := hu.1
  obtain ⟨hn, -, -, m, c, g, m2, c1, s, kb, mb, c2, h18, h19, h20, hc2n⟩ := hX
  have gp := OR_hd (PA_bd f) h18.2
  have gb := (RW_hd (XP_bd f (o + 2) 3) h20.2).1
  unfold HDc at gb
  have i1 : inb (I ((n : Nat) : Int)) 8016 = true := (I_inb (by omega) (by omega)).mpr ⟨by omega, by omega⟩
  obtain ⟨rg, kg, h19b, hg1, hg2, hg3, hqs⟩ : ∃ rg kg : Nat, (A u 19 n = ((g : Nat) : Int) ∧ ((g = 0 ∧ rg = m2 ∧ s = q) ∨ (1 ≤ g ∧ RWc u 1 (XPc u f (o + 1) 3) kg g rg m2 c c1 q s))) ∧ r0 ≤ rg ∧ rg ≤ m2 ∧ (g ≠ 0 → r0 + 1 ≤ rg) ∧ (q ≤ s ∧ c ≤ c1) := by
    rcases h19.2 with ⟨z1, z2, z3, z4⟩ | ⟨z1, kg, z2⟩
    · exact ⟨m2, 0, ⟨h19.1, Or.inl ⟨z1, rfl, z4⟩⟩, by omega, by omega, fun z => absurd z1 z, by omega⟩
    · have gr := (RW_hd (XP_bd f (o + 1) 3) z2).1
      unfold HDc at gr
      exact ⟨r0 + 1, kg, ⟨h19.1, Or.inr ⟨z1, z2⟩⟩, by omega, by omega, fun _ => by omega, by omega⟩
  have wb : WBc ps pl ph + WBc ps rg m2 + WBc ps (m2 + 1) hi + 12 * ((rg - ph : Nat) : Int) + 12 ≤ WBc ps pl hi := by
    have w1 := WB_2 hcs.1 (lo := pl) (m := ph) (lo2 := rg) (hi := m2) (by omega) (by omega) (by omega) (by omega)
    have w2 := WB_2 hcs.1 (lo := pl) (m := m2) (lo2 := m2 + 1) (hi := hi) (by omega) (by omega) (by omega) (by omega)
    omega
  unfold hm_Cm_clause hb_Cm_clause_0
  rw [ok_bnd]
  refine ok_mono (hT f k kg g m u lv cc Q ps n pl ph rg m2 m2 a c c1 q s ((k : Nat) : Int) hf hu hu.2.2.2.2 (by omega) h18 h19b (by omega) hg2 (Nat.le_refl _) (by omega) (by omega) (fun _ => by omega) (by omega) ⟨by omega, by omega⟩) (fun v r1 hv => ?_)
  obtain ⟨ch, rfl, hch, pv⟩ := hv
  have cv := pv.1.2.1
  refine put_1 (x := 24) cv.1 ⟨by decide, by decide⟩ (fun w1 e1 => ?_)
  refine put_B (x := ((k : Nat) : Int)) cv.1.1 e1 ⟨by omega, by omega⟩ (fun w2 e2 => ?_)
  refine put_B (x := line) cv.1.1 e2 hline (fun v1 e3 => ?_)
  have k1 := EMc.km cv e3
  have kf1 := KMF.tr pv.1.1 k1.1
  have e16 : F v1 706 = F v 706 := congrArg _ (e3.1.1 706 (by simp))
  have pv6 := pv.2.1
  have hu6 := hu.2.2.2.2
  rw [i1, ck_t, tnI (n := n) rfl (by omega), I_A (k := 20), kf1.A (j := 20) (by simp), h20.1, ok_bnd]
  have hv1 : CMP v1 lv cc ps Q (o + 2) (m2 + 1) := CMP_k hu (KMc.tr pv.1 k1) (by rw [e16]; omega) (by omega)
  refine ok_mono (hB f kb v1 lv cc Q ps mb (m2 + 1) hi c1 c2 s r 1 hf hv1 (RW_k (XP_k (Nat.le_refl _) (Nat.le_refl _)) (XP_bd f (o + 2) 3) h20.2 (KN_m kf1)) (by omega) hh hQ (by omega)) (fun v2 _ p2 => ?_)
  have c2v := p2.1.2.1
  refine put_1 (x := 35) c2v.1 ⟨by decide, by decide⟩ (fun v3 e4 => ok_lt.mpr ?_)
  have k3 := EMc.km c2v e4
  have e36 : F v3 706 = F v2 706 := congrArg _ (e4.1.1 706 (by simp))
  have q1 := PC_seq (Y := (szc v1 = szc v + 3 ∧ A v1 23 (szc v) = 24 ∧ A v1 23 (szc v + 1) = ((k : Nat) : Int)) ∧ OLQ v v1 s s ∧ TRYc u v lv pl q s o k ((k : Nat) : Int) ch) pv (PC_em (hi := m2) (q := s) cv e3) (Nat.le_refl _) hqs.1 (Nat.le_refl _) (fun gd o1 o2 y1 y2 => ⟨⟨y2.1, y2.2 0 (by simp), y2.2 1 (by simp)⟩, o2, y1⟩)
  have q2 := PC_seq (Y := ((szc v1 = szc v + 3 ∧ A v1 23 (szc v) = 24 ∧ A v1 23 (szc v + 1) = ((k : Nat) : Int)) ∧ OLQ v v1 s s ∧ TRYc u v lv pl q s o k ((k : Nat) : Int) ch) ∧ OLQ v1 v2 s r ∧ TYX v1 v2 lv (m2 + 1) s r (o + 2) (1 = 1) 1) q1 p2 (by omega) hqs.1 (by omega) (fun gd o1 o2 y1 y2 => ⟨y1, o2, y2⟩)
  have q3 := PC_seq (Y := (((szc v1 = szc v + 3 ∧ A v1 23 (szc v) = 24 ∧ A v1 23 (szc v + 1) = ((k : Nat) : Int)) ∧ OLQ v v1 s s ∧ TRYc u v lv pl q s o k ((k : Nat) : Int) ch) ∧ OLQ v1 v2 s r ∧ TYX v1 v2 lv (m2 + 1) s r (o + 2) (1 = 1) 1) ∧ szc v3 = szc v2 + 1 ∧ A v3 23 (szc v2) = 35 ∧ OLQ v2 v3 r r ∧ GDc v3 hi r) q2 (PC_em (hi := hi) (q := r) c2v e4) (Nat.le_refl _) (by omega) (Nat.le_refl _) (fun gd o1 o2 y1 y2 => ⟨y1, y2.1, y2.2 0 (by simp), o2, gd⟩)
  have kuv3 := q3.1
  have fru := FRG1 u 706
  have q4 := PC_706 (m0 := F u 706) q3 rfl cu.2.2.2.2.2.2.2.1
  rw [I_F (k := 706), wi_e, ok_bnd]
  have c4 := q4.1.2.1
  have ev4 : ∀ j, j ≠ 706 → F (wi v3 706 (F u 706)) j = F v3 j := fun j hj => by rw [F_wi fru.1 fru.2, if_neg hj]
  have e46 : F (wi v3 706 (F u 706)) 706 = F u 706 := by rw [F_wi fru.1 fru.2, if_pos rfl]
  have esz4 : szc (wi v3 706 (F u 706)) = szc v3 := by show (F (wi v3 706 (F u 706)) 441).toNat = _; rw [ev4 441 (by decide)]
  have eA4 : ∀ r j, A (wi v3 706 (F u 706)) r j = A v3 r j := fun _ _ => rfl
  have sg4 : ∀ {a b q r : Nat} {H : List (Nat × Tyc)} {z h m : Nat} {L : List Nat} {g x : Nat} {oo : Option Tyc}, SGc v3 a b q r H z h m L g x oo → SGc (wi v3 706 (F u 706)) a b q r H z h m L g x oo := fun p => SG_wi fru ⟨by decide, by decide, by decide⟩ p
  generalize wi v3 706 (F u 706) = v4 at q4 c4 e46 esz4 eA4 sg4 ⊢
  refine ok_mono (arrive_ok (N := N) (u := v4) hch (by omega)) (fun w _ hw => ok_some.mpr ?_)
  have k35 := KM_23 c4 hw.1
  have e6w : F w 706 = F u 706 := (congrArg _ (hw.1.1 706 (by simp)) : F w 706 = F v4 706).trans e46
  have e41 : A w 41 lv = A v3 41 lv := by
    have : A w 41 lv = A v4 41 lv := by show (w.2.2.1 41 lv).toInt = _; rw [hw.1.2.2.1 41 (by simp)]; rfl
    rw [this, eA4]
  have chn : TRYc u v lv pl q s o k ((k : Nat) : Int) ch → OLQ v v1 s s → OLQ v1 v2 s r → OLQ v2 v3 r r → ∃ Hp, CHNc v4 Hp ch ∧ (∀ p, p ∈ Hp → szc u ≤ p ∧ p < szc v) ∧ ∀ z h m L x, TPRc u v lv pl o k ((k : Nat) : Int) z h m L x → SGc v (szc u) (szc v) q s (Hp.map (fun p => (p, (h, m, L, 0, x)))) z h m L 0 x (some (h, m + knc u v, L, 0, x)) := fun ⟨Hp, c1, c2, _, c3⟩ o1 o2 o3 => by
    refine ⟨Hp, CHNc_k (fun p hp => ?_) c1, c2, c3⟩
    have hp2 : p < (F v 441).toNat := (c2 p hp).2
    have hcv := cv.1
    have f1 := k1.2.2.1
    have f2 := p2.1.2.2.1
    rw [eA4, o3.1 p (by omega), o2.1 p (by omega), o1.1 p (by omega)]
  have q5 := PC_arr (Y1 := F w 706 = F u 706 ∧ szc u < szc w ∧ ∀ m, NMc u w lv m → SGc w (szc u) (szc w) q r [] 0 k m [] 0 0 (some (k, m, [], 0, 0))) q4 hw.1 (fun gv y j hj => ?_) (fun gw gv y => ⟨e6w, ?_⟩)
  · refine PC_w q5 ?_ (Nat.le_refl _) (Nat.le_refl _) (fun _ z => z)
    have : (if g = 0 then (0 : Int) else 5) ≤ 12 * ((rg - r0 : Nat) : Int) := by
      by_cases z : g = 0
      · rw [if_pos z]; omega
      · rw [if_neg z]; have := hg3 z; omega
    have : (if k = 0 then (0 : Int) else 4) ≤ 4 := by split <;> omega
    simp only [List.length_append, List.length_cons, List.length_nil]
    omega
  · obtain ⟨⟨⟨-, o1, ty⟩, o2, -⟩, -, -, o3, -⟩ := y
    obtain ⟨Hp, c1, c2, -⟩ := chn ty o1 o2 o3
    refine (hw.2 Hp c1).2 j (fun hj2 => ?_)
    have : (F u 441).toNat ≤ j := (c2 j hj2).1
    omega
  · obtain ⟨⟨⟨⟨s1, w0, w1w⟩, o1, ty⟩, o2, yb⟩, s3, w3, o3, gd⟩ := y
    obtain ⟨Hp, ch1, hp1, tyt⟩ := chn ty o1 o2 o3
    have ar := hw.2 Hp ch1
    have uv := szc_le cu pv.1
    have v12 := szc_le k1.2.1 p2.1
    have esw : szc w = szc v3 := by
      rw [← esz4]
      show (F w 441).toNat = (F v4 441).toNat
      rw [show F w 441 = F v4 441 from congrArg _ (hw.1.1 441 (by simp))]
    refine ⟨by rw [esw]; omega, fun m nm => ?_⟩
    have l15 := gd.2.2.2.1
    obtain ⟨nm1, nm2⟩ := nm
    have a41a := k1.2.2.2.2.2.2.2.2
    have a41b := p2.1.2.2.2.2.2.2.2.2
    have a41c := k3.2.2.2.2.2.2.2.2
    have a40 := pv.1.2.2.2.2.2.2.1 lv (Nat.le_refl _)
    have a40b := k1.2.2.2.2.2.2.1 lv (Nat.le_refl _)
    have kn : ((knc u v : Nat) : Int) = F v 706 - F u 706 := by show (((F v 706 - F u 706).toNat : Nat) : Int) = _; omega
    have b6 := p2.2.1
    have kn2 : ((knc v1 v2 : Nat) : Int) = F v2 706 - F v1 706 := by show (((F v2 706 - F v1 706).toNat : Nat) : Int) = _; omega
    have c38 := k3.2.1.2.2.2.2.2.2.2.2
    have a40c := kuv3.2.2.2.2.2.2.1 lv (Nat.le_refl _)
    have hm40 : m + knc u v + knc v1 v2 ≤ 40 := by omega
    have h12b : F v1 712 = 0 := by rw [k1.2.2.2.2.2.1.1, pv.1.2.2.2.2.2.1.1]; exact h12
    have i1 := tyt 0 k m [] 0 ⟨by omega, by omega, ⟨nm1, by omega⟩, by simp, Or.inr (Or.inl ⟨k, rfl, Nat.le_refl _⟩)⟩
    obtain ⟨-, i3⟩ := yb 0 (m + knc u v) [] 0 0 ⟨by omega, ⟨by rw [a40b, a40, e16]; omega, by rw [a40b, a40, e16]; omega⟩, by simp, fun _ => rfl, ⟨fun z => absurd rfl z, fun z => by rw [h12b] at z; exact absurd z (by decide)⟩, fun _ => rfl⟩
    have i2 := SG_chos (u := v1) (a := szc v) (n := k) (q := s) (z := 0) (h := k) (m := m + knc u v) (L := []) (g := 0) (x := 0) (by omega) (by omega) (by omega) w0 w1w (Nat.le_refl _)
    rw [Nat.sub_self, ← s1] at i2
    have i4 := SG_ret (u := v3) (a := szc v2) (q := r) (z := 0) (h := 0 + 1) (m := m + knc u v + knc v1 v2) (L := []) (g := 0) (x := 0) (by omega) (by omega) hm40 w3 ⟨rfl, rfl, by omega, rfl⟩
    rw [← s3] at i4
    have j1 := SG_kw cv i1 k1.1 o1 (Nat.le_refl _) (Or.inl (Nat.le_refl _))
    have j12 := SG_seq j1 i2 (by omega) (fun hg => absurd rfl hg)
    have j12' := SG_kw k1.2.1 j12 p2.1.1 o2 (Nat.le_refl _) (Or.inl (Nat.le_refl _))
    have j13 := SG_seq j12' i3 (by omega) (fun hg => absurd rfl hg)
    have j13' := SG_kw c2v j13 k3.1 o3 (Nat.le_refl _) (Or.inl (Nat.le_refl _))
    have j14 := SG_seq j13' i4 (by omega) (fun hg => absurd rfl hg)
    rw [List.append_nil, List.append_nil, List.append_nil, ← List.append_nil (Hp.map _), ← esz4] at j14
    refine SG_arc (lv := lv) (H2 := []) (Hp := Hp) c4 hw.1 ar (sg4 j14) (by rw [esz4]; omega) (Or.inl rfl) (fun p t hp => ?_) (fun p hp => ?_) (fun p t t2 _ hp => by simp at hp)
    · obtain ⟨p2, hp2, h5⟩ := List.mem_map.mp hp
      injection h5 with h6 h7
      exact ⟨h7.symm, h6 ▸ hp2⟩
    · exact ⟨_, List.mem_map.mpr ⟨p, hp, rfl⟩⟩
end
