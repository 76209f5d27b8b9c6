section
variable {Fv : Int64 → Int64 → Prop} {P P2 : Int64 → Prop} {u v w w2 x y : MS} {PR PR2 N p n n2 opM bnM bxM bx2 ND fr k tp mu CN PN SN UN FN rq q m h mm AN z j : Nat} {ow kd ow2 kd2 ro rn rh cb pc ct pM pE : Nat → Nat} {T : TY} {C : CY}
theorem frameOf_ok {v1 v2 : Int} {tl : Int32} {b g bo bn fr2 : Nat} (i : MEI Fv P PR u p n ow kd opM bnM bxM) (hf : 1 ≤ fr ∧ fr ≤ 60) (h95 : A u 95 p = ((fr : Nat) : Int)) (h166 : F u 166 = ((g : Nat) : Int)) (hg : g ≤ 1) (hb : b ≤ 6) (hbg : b + g ≤ opM) (hv1 : -1 ≤ v1 ∧ v1 < 1000) (hv2 : -1 ≤ v2 ∧ v2 < 2000) (h40 : h ≤ 40) (hbn : bn + h ≤ 2500) (htl : (tl = 0 ∧ fr < 60 ∧ fr2 = fr + 1 ∧ bo = opM - b - g ∧ bn = bnM) ∨ (tl ≠ 0 ∧ fr2 = fr ∧ A u 100 (60 * p + (fr - 1)) = ((bo : Nat) : Int) ∧ bo + b ≤ opM ∧ A u 99 (60 * p + (fr - 1)) = ((bn : Nat) : Int) ∧ bn ≤ bnM)) (hfl : (v2 = -1 ∧ h = 0) ∨ (v2 ≠ -1 ∧ g = 1 ∧ so (u.2.2.2 91 (46000 * p + (opM - 1 - b))) = 3 ∧ vn (hp u p (vn (u.2.2.2 91 (46000 * p + (opM - 1 - b))) + 1)) = h)) (hN : 60000 ≤ N) : OK (fun y _ => FOQ Fv P PR p n ow kd bxM fr2 bo b bn h u y) (fm_M_frameOf N u (I v1) (I v2) (I b) tl) := by
  have x4 := MEI_p i
  have om : opM ≤ 46000 := i.2.2.2.2.2.2.2.2.2.1.2
  have p92 : A u 92 p = ((opM : Nat) : Int) := i.2.2.2.2.2.2.2.2.2.1.1
  have p94 : A u 94 p = ((bnM : Nat) : Int) := i.2.2.2.2.2.2.2.2.2.2.1.1
  have bl : bnM ≤ 2500 := i.2.2.2.2.2.2.2.2.2.2.1.2
  have y46 : ∀ (fl : Int) (v7 : Int64), ((fl = 0 ∧ h = 0) ∨ (fl = 1 ∧ GT n ow kd P v7 ∧ so v7 = 3 ∧ vn (hp u p (vn v7 + 1)) = h)) → OK (fun y _ => FOQ Fv P PR p n ow kd bxM fr2 bo b bn h u y) (fb_M_frameOf_46 N (gg_M_frameOf N N) u (I v1) (I b) tl (I fl) (I g) v7) := fun fl v7 h7 => by
    unfold fb_M_frameOf_46
    rw [I_F' i.2.2.1]
    refine ok_ck.mpr ⟨inb_at (k := 92) (n := 24) rfl (by omega) (by omega) (by decide), ok_lt.mpr (ok_ck.mpr ⟨inb_at (k := 94) (n := 24) rfl (by omega) (by omega) (by decide), ok_lt.mpr ?_⟩)⟩
    rw [I_tn (x := (p : Int)) (by omega) (by omega), Int.toNat_natCast, I_A' p92, I_A' p94, I_sub, I_sub, show (46000 : Int32) = I 46000 from rfl, I_mul, show (p : Int) * 46000 = ((46000 * p : Nat) : Int) from by omega]
    have y128 : ∀ x : MS, FR [] [] [95] [] u x → OTF p u x → A x 95 p = ((fr2 : Nat) : Int) → bo + b ≤ opM → bn ≤ bnM → 1 ≤ fr2 ∧ fr2 ≤ 60 → OK (fun y _ => FOQ Fv P PR p n ow kd bxM fr2 bo b bn h u y) (fb_M_frameOf_128 N (gg_M_frameOf N N) x (I v1) (I b) (I fl) v7 (I ((46000 * p : Nat) : Int)) (I bo) (I bn)) := fun x fx ox hx95 hb1 hb2 hb3 => by
      unfold fb_M_frameOf_128
      have ix := MEI_fr i fx (by decide) (by decide) (by decide) (by decide) (by decide) (by decide) (by decide) (by decide) (by decide) (by decide) (by decide) (by decide) (by decide) (by decide) (by decide) (by decide) (by decide) (by decide)
      have hpx : hp x p = hp u p := by unfold hp; rw [fx.2.2.2 88 (by decide)]
      rw [I_F' ix.2.2.1]
      refine ok_ck.mpr ⟨inb_at (k := 92) (n := 24) rfl (by omega) (by omega) (by decide), ok_lt.mpr ?_⟩
      rw [I_tn (x := (p : Int)) (by omega) (by omega), Int.toNat_natCast, I_A' ix.2.2.2.2.2.2.2.2.2.1.1, I_sub, show (opM : Int) - (b : Int) = ((opM - b : Nat) : Int) from by omega, show (0 : Int32) = I ((0 : Nat) : Int) from rfl]
      exact fo1 (N := N) (o12 := opM - b) hb hv1 h40 hbn hb2 (by omega) (by omega) hb3 fx ox hx95 ix (by rw [hpx]; exact h7) hN b 0 x N (by omega) (by omega) FR.rf ix
    rcases htl with ⟨t1, t2, t3, t4, t5⟩ | ⟨t1, t2, t3, t4, t5, t6⟩
    · refine ok_br.mpr ⟨fun _ => ?_, fun z => absurd t1 (of_decide_eq_false z)⟩
      refine ok_ck.mpr ⟨inb_at (k := 95) (n := 24) rfl (by omega) (by omega) (by decide), ok_ck.mpr ⟨inb_at (k := 95) (n := 24) rfl (by omega) (by omega) (by decide), ok_lt.mpr ?_⟩⟩
      rw [I_A' h95, lit1q, I_add, wa_e, show (opM : Int) - (b : Int) - (g : Int) = ((bo : Nat) : Int) from by omega, ← t5]
      exact y128 _ (FR.wa FR.rf (by decide)) (OTF_at (FR.wa FR.rf (by decide) : FR [] [] [95] [] u _) (i0 := p) (fun y hy => by rw [A_eq (by omega) (by omega), if_neg hy]) (Or.inl ⟨by decide, rfl⟩)) (by rw [A_eq (by omega) (by omega), if_pos rfl]; omega) (by omega) (by omega) (by omega)
    · refine ok_br.mpr ⟨fun z => absurd (of_decide_eq_true z) t1, fun _ => ?_⟩
      rw [frame0_x (fr := fr) i.2.2.1 x4 h95 hf, bnd_so]
      refine ok_ck.mpr ⟨inb_at (k := 100) (n := 1440) rfl (by omega) (by omega) (by decide), ok_lt.mpr ?_⟩
      rw [frame0_x (fr := fr) i.2.2.1 x4 h95 hf, bnd_so]
      refine ok_ck.mpr ⟨inb_at (k := 99) (n := 1440) rfl (by omega) (by omega) (by decide), ok_lt.mpr ?_⟩
      rw [I_tn (x := ((60 * p + (fr - 1) : Nat) : Int)) (by omega) (by omega), Int.toNat_natCast, I_A' t3, I_A' t5]
      exact y128 u FR.rf (OTF_fr (FR.rf : FR [] [] [] [] u u) (by decide)) (by rw [t2]; exact h95) t4 t6 (by omega)
  have y24 : ∀ fl : Int, ((fl = 0 ∧ h = 0) ∨ (fl = 1 ∧ v2 ≠ -1)) → OK (fun y _ => FOQ Fv P PR p n ow kd bxM fr2 bo b bn h u y) (fb_M_frameOf_10 N (gg_M_frameOf N N) u (I v1) (I b) tl (I fl)) := fun fl hfl' => by
    unfold fb_M_frameOf_10 fb_M_frameOf_24
    rw [I_F' h166, show (0 : Int32) = I 0 from rfl, show (1 : Int32) = I 1 from rfl, decE (by omega) (by omega) (by omega) (by omega)]
    refine ok_br.mpr ⟨fun zg => ?_, fun zg => ?_⟩
    · have g0 : g = 0 := by have := of_decide_eq_true zg; omega
      refine ok_br.mpr ⟨fun z => absurd (of_decide_eq_true z) (by decide), fun _ => ?_⟩
      rw [show (6 : Int32) = I 6 from rfl, term_e, bnd_so]
      have := y46 fl (mk 6 0) (by
        rcases hfl' with z | ⟨z1, z2⟩
        · exact Or.inl z
        · rcases hfl with ⟨q, -⟩ | ⟨-, q, -⟩
          · exact absurd q z2
          · omega)
      rw [g0] at this; exact this
    · have g1 : g = 1 := by have := of_decide_eq_false zg; omega
      refine ok_br.mpr ⟨fun _ => ?_, fun z => absurd rfl (of_decide_eq_false z)⟩
      obtain ⟨t1, t2⟩ := top_ok (N := N) (k := b) i (by omega)
      rw [t1, bnd_so]
      have := y46 fl _ (by
        rcases hfl' with z | ⟨z1, z2⟩
        · exact Or.inl z
        · rcases hfl with ⟨q, -⟩ | ⟨-, -, q1, q2⟩
          · exact absurd q z2
          · exact Or.inr ⟨z1, t2, q1, q2⟩)
      rw [g1] at this; exact this
  unfold fm_M_frameOf fb_M_frameOf_0
  rw [litm1q, decE (by omega) (by omega) (by omega) (by omega)]
  refine ok_br.mpr ⟨fun z => y24 0 (Or.inl ⟨rfl, ?_⟩), fun z => y24 1 (Or.inr ⟨rfl, of_decide_eq_false z⟩)⟩
  rcases hfl with ⟨-, q⟩ | ⟨q, -⟩
  · exact q
  · exact absurd (of_decide_eq_true z) q
theorem sR_ext {pc2 : Nat → Nat} : ∀ m, (∀ i, i < m → pc2 i = pc i) → sR T pc2 m = sR T pc m := by
  intro m
  induction m with
  | zero => intro _; rfl
  | succ m ih => intro h; show sR T pc2 m + tR T (pc2 m) = sR T pc m + tR T (pc m); rw [ih (fun i hi => h i (by omega)), h m (by omega)]
theorem sR_le : ∀ m, (∀ i, i < m → tR T (pc i) ≤ 16000) → sR T pc m ≤ 16000 * m := by
  intro m
  induction m with
  | zero => intro _; exact Nat.le_refl _
  | succ m ih => intro h; show sR T pc m + tR T (pc m) ≤ _; have := ih (fun i hi => h i (by omega)); have := h m (by omega); omega
theorem FRS_call {is ls as js : List Nat} {bo bn : Nat} (hF : FRS u T ND p fr ro rn rh cb pc ct k tp) (h60 : fr < 60) (f : FR is ls as js u w) (ha : ∀ k, k ∈ [23, 98, 102, 103, 104, 105] → k ∉ as) (h98 : A u 98 (60 * p + (fr - 1)) = ((q : Nat) : Int)) (hq : q < ND) (hG : tG T q = 0) (hB : tB T q + 1 ≤ tH T q) (hH : tH T q ≤ 760) (hl : rh (fr - 1) = tL T q) (hML : tM T q + tL T q ≤ 40) (hk : tK T q = k) (hk26 : k ≤ 26) (htc : tC T q = tp) (ho : bo + 1 = ro (fr - 1) + tH T q) (hn : bn = rn (fr - 1) + rh (fr - 1) + tM T q) (h40 : h ≤ 40) (h95 : A w 95 p = ((fr + 1 : Nat) : Int)) (h99 : ∀ i, A w 99 i = if i = 60 * p + fr then ((bn : Nat) : Int) else A u 99 i) (h100 : ∀ i, A w 100 i = if i = 60 * p + fr then ((bo : Nat) : Int) else A u 100 i) (h101 : ∀ i, A w 101 i = if i = 60 * p + fr then ((h : Nat) : Int) else A u 101 i) : FRS w T ND p (fr + 1) (fun i => if i = fr then bo else ro i) (fun i => if i = fr then bn else rn i) (fun i => if i = fr then h else rh i) (fun i => if i = fr then cb (fr - 1) + k else cb i) (fun i => if i = fr - 1 then q else pc i) ct 0 0 := by
  obtain ⟨⟨h1, h2, h3⟩, ⟨z1, z2, z3⟩, h5, h6, h7⟩ := hF
  have top := h5 (fr - 1) (by omega)
  refine ⟨⟨by omega, by omega, h95⟩, ⟨by simp only []; rw [if_neg (by omega)]; exact z1, by simp only []; rw [if_neg (by omega)]; exact z2, by simp only []; rw [if_neg (by omega)]; exact z3⟩, fun i hi => ?_, fun i hi => ?_, fun j hj => absurd hj (Nat.not_lt_zero j)⟩
  · simp only []
    by_cases e : i = fr
    · rw [if_pos e, if_pos e, if_pos e, if_pos e, h99, h100, h101, if_pos (by omega), if_pos (by omega), if_pos (by omega)]
      exact ⟨rfl, rfl, rfl, h40, by omega, by omega, by omega⟩
    · rw [if_neg e, if_neg e, if_neg e, if_neg e, h99, h100, h101, if_neg (by omega), if_neg (by omega), if_neg (by omega)]
      exact h5 i (by omega)
  · simp only []
    have cti : ∀ i c0 kk tt a b c, CTI u T ND p ct i c0 kk tt a b c → CTI w T ND p ct i c0 kk tt a b c := fun i c0 kk tt a b c hc => CTI_fr hc f (ha _ (by decide)) (ha _ (by decide)) (ha _ (by decide)) (ha _ (by decide)) (ha _ (by decide))
    by_cases e : i = fr - 1
    · rw [if_pos e, if_pos (show i + 1 = fr by omega), if_pos (show i + 1 = fr by omega), if_pos (show i + 1 = fr by omega), if_neg (show i ≠ fr by omega), if_neg (show i ≠ fr by omega), if_neg (show i ≠ fr by omega), if_neg (show i ≠ fr by omega), FR.A f (ha _ (by decide)), e]
      exact ⟨h98, hq, hG, hB, ho, hl, hn, by rw [hk], by rw [hk, htc]; exact cti _ _ _ _ _ _ _ h7⟩
    · rw [if_neg e, if_neg (show i + 1 ≠ fr by omega), if_neg (show i + 1 ≠ fr by omega), if_neg (show i + 1 ≠ fr by omega), if_neg (show i ≠ fr by omega), if_neg (show i ≠ fr by omega), if_neg (show i ≠ fr by omega), if_neg (show i ≠ fr by omega), FR.A f (ha _ (by decide))]
      obtain ⟨r1, r2, r3, r4, r6, r7, r8, r9, r10⟩ := h6 i (by omega)
      exact ⟨r1, r2, r3, r4, r6, r7, r8, r9, cti _ _ _ _ _ _ _ r10⟩
theorem FRS_tail {is ls as js : List Nat} (hF : FRS u T ND p fr ro rn rh cb pc ct 0 tp) (f : FR is ls as js u w) (ha : ∀ k, k ∈ [23, 102, 103, 104, 105] → k ∉ as) (h98 : ∀ i, i + 1 < fr → A w 98 (60 * p + i) = A u 98 (60 * p + i)) (h40 : h ≤ 40) (h95 : A w 95 p = ((fr : Nat) : Int)) (h99 : ∀ i, A w 99 i = if i = 60 * p + (fr - 1) then ((rn (fr - 1) : Nat) : Int) else A u 99 i) (h100 : ∀ i, A w 100 i = if i = 60 * p + (fr - 1) then ((ro (fr - 1) : Nat) : Int) else A u 100 i) (h101 : ∀ i, A w 101 i = if i = 60 * p + (fr - 1) then ((h : Nat) : Int) else A u 101 i) : FRS w T ND p fr ro rn (fun i => if i = fr - 1 then h else rh i) cb pc ct 0 0 := by
  obtain ⟨⟨h1, h2, h3⟩, z, h5, h6, h7⟩ := hF
  refine ⟨⟨h1, h2, h95⟩, z, fun i hi => ?_, fun i hi => ?_, fun j hj => absurd hj (Nat.not_lt_zero j)⟩
  · simp only []
    have := h5 i hi
    by_cases e : i = fr - 1
    · rw [if_pos e, h99, h100, h101, if_pos (by omega), if_pos (by omega), if_pos (by omega), e]
      rw [e] at this
      exact ⟨rfl, rfl, rfl, h40, this.2.2.2.2⟩
    · rw [if_neg e, h99, h100, h101, if_neg (by omega), if_neg (by omega), if_neg (by omega)]
      exact this
  · simp only []
    obtain ⟨r1, r2, r3, r4, r6, r7, r8, r9, r10⟩ := h6 i hi
    rw [if_neg (show i ≠ fr - 1 by omega), h98 i hi]
    exact ⟨r1, r2, r3, r4, r6, r7, r8, r9, CTI_fr r10 f (ha _ (by decide)) (ha _ (by decide)) (ha _ (by decide)) (ha _ (by decide)) (ha _ (by decide))⟩
end
