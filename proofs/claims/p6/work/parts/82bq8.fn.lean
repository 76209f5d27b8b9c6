set_option maxRecDepth 100000
section
variable {α : Type} {m0 w0 m w v u m2 m3 w2 w' mB wB : MS} {K nm Nk W : Nat → Nat} {T p n N q q1 X Y n0 n1 n2 n3 lo lo2 nl π b k d o M D tok f p0 ar bq : Nat} {v1 v2 r : Int32} {a a' a0 : CLT} {l l' : List CLT} {pd : Int32 → Int32 → Nat}
theorem CLOb_len (h : CLOb N K nm m lo n a) : PK (fun v r => v = m ∧ r = I (a.2.2.1 : Nat)) (hm_Tr_length N m (m.2.2.1 18 a.1)) := by
  obtain ⟨mi, li, ni, q0, q1, q4, sc1, e5, X1, X2, W, R1, R2, Z1, Z2, C1, C2, lp, a1, a2, a3, a4, a5, a6, a7, a8, a9⟩ := h
  rw [a7.1, ← a7.2.2.2.1]
  exact length_p a7.2.1
theorem CLOb_b (h : CLOb N K nm m lo n a) : lo < a.1 ∧ a.1 ≤ n ∧ a.1 ≤ 8015 := by
  obtain ⟨mi, li, ni, q0, q1, q4, sc1, e5, X1, X2, W, R1, R2, Z1, Z2, C1, C2, lp, a1, _⟩ := h
  omega
theorem adF_e {x1 x2 x3 x4 x5 : Int32} (h : m.1 442 = I (f : Nat)) (hf : f < 666) : hm_Co_addFunction N m x1 x2 x3 x4 x5 = some (upI (upA (upA (upA (upA (upA m 24 (upd (m.2.2.1 24) f x1)) 25 (upd (m.2.2.1 25) f x2)) 26 (upd (m.2.2.1 26) f x3)) 27 (upd (m.2.2.1 27) f x4)) 28 (upd (m.2.2.1 28) f x5)) 442 (I ((f + 1 : Nat) : Int)), ()) := by
  show hb_Co_addFunction_0 N () m x1 x2 x3 x4 x5 = _
  unfold hb_Co_addFunction_0
  have e : ∀ (u : MS), u.1 = m.1 → u.1 442 = I (f : Nat) := fun u hu => by rw [hu]; exact h
  have i : inb (I (f : Nat)) 666 = true := (I_inb (x := (f : Nat)) (n := 666) (by omega) (by omega)).mpr ⟨by omega, by omega⟩
  have d : decide (I (f : Nat) < (666 : Int32)) = true := decide_eq_true ((I_lt (x := (f : Nat)) (y := (666 : Int)) (by omega) (by omega) (by omega) (by omega)).mpr (by omega))
  simp only [lt, ck]
  rw [e m rfl, d, br_tq, i]
  simp only [if_true, e (upA m 24 _) rfl, e (upA (upA m 24 _) 25 _) rfl, e (upA (upA (upA m 24 _) 25 _) 26 _) rfl, e (upA (upA (upA (upA m 24 _) 25 _) 26 _) 27 _) rfl, e (upA (upA (upA (upA (upA m 24 _) 25 _) 26 _) 27 _) 28 _) rfl, i, tnI (x := (f : Nat)) (n := f) rfl (by omega), i_suc]
  rfl
theorem fn_end {M' : Nat} (c : CTZ m0 w0 K T nm Nk) (cA : CTA m0 w0 K T) (cP : CTP N m0 w0 K T pd) (hp0 : K p0 = 2 ∧ p0 < T) (h442 : mB.1 442 = I (f : Nat)) (hf6 : 6 * f ≤ p0) (hl : l ++ [a] = a0 :: l') (ha : a0.2.1 = p0) (har : a0.2.2.1 = ar) (har6 : ar ≤ 6) (h : RLP m0 w0 T p m w) (hp : p0 + 5 ≤ p) (hn : m.1 306 = I (n : Nat)) (hn2 : n ≤ 2 * p) (ko : KPO n0 mB m) (pc : PCG mB m) (hF : FCL N K nm m n0 nl n l a) (hW : FWI m0 w0 wB w f p0 ar (l ++ [a])) (h51 : w.2.2.1 51 f = I ((l.length + 1 : Nat) : Int)) : PP (FNZ N m0 w0 K T nm pd f p0 n0 mB wB) (hb_Pa_oneFunction_58 N (hg_Pa_oneFunction N M) m (I (p0 : Nat)) (I (a0.1 : Nat))) (fb_M_function0_228 N (gg_M_function0 N M') w (I (f : Nat))) := by
  have T4 := c.1.1.1
  have hc := RLP_c c h
  have hw := RLP_w c h
  have h0 := h.2.2.2.2.2.2
  unfold hb_Pa_oneFunction_58 fb_M_function0_228
  by_cases k28 : K p = 28
  · have pl : p < T := TWK_lt c h.2.2.2.2.1 (by omega) (by omega)
    rw [need_e (s := 28) hc k28 (by decide) rfl, bTm_l, ndS_1 (s := 8) hw h0 (by decide) rfl k28, bnd_s]
    have h1 := RLP_ad h pl
    obtain ⟨f1, f2, f3, f4⟩ := hF
    have all : ∀ b, b ∈ a0 :: l' → CLOb N K nm m n0 n b := fun b hb => by
      rw [← hl] at hb
      rcases List.mem_append.mp hb with y | y
      · exact CLOb_k (f1 b y) (fun _ _ _ => ⟨rfl, fun _ => rfl⟩) Kc_rf (Nat.le_refl _) f3.2
      · have : b = a := by simpa using y
        rw [this]
        exact CLOb_k f2 (fun _ _ _ => ⟨rfl, fun _ => rfl⟩) Kc_rf f3.1 (Nat.le_refl _)
    rw [hl] at f4
    have b0 := CLOb_b (all a0 List.mem_cons_self)
    have len : l.length + 1 = l'.length + 1 := by
      have := congrArg List.length hl
      simpa using this
    refine l_ck (fun _ => l_ck (fun _ => ?_))
    rw [tnI (n := a0.1) rfl (by omega), tnI (n := p0) rfl (by omega)]
    refine l_bnd (pk_mo (CLOb_len (m := advc m p) (CLOb_k (all a0 List.mem_cons_self) (fun _ _ _ => ⟨rfl, fun _ => rfl⟩) kc_ad (Nat.le_refl _) (Nat.le_refl _))) (fun v r hv => ?_))
    obtain ⟨rfl, rfl⟩ := hv
    refine l_ck (fun _ => ?_)
    have nx : NXT (advc m p) ((a0 :: l').map (fun b => b.1)) := NXT_k f4 (fun _ _ => rfl)
    refine l_bnd (pk_mo (length_p nx) (fun v r hv => ?_))
    obtain ⟨rfl, rfl⟩ := hv
    have g442 : (advc m p).1 442 = I (f : Nat) := by unfold advc; rw [upI_ne (by decide), pc.1 442 (by decide)]; exact h442
    have f666 : f < 666 := by omega
    rw [adF_e g442 f666, bnd_s]
    obtain ⟨a1, a2, a3, a4, a5, a6, a7⟩ := hW
    have aR : (adv w p).2.2.1 = w.2.2.1 := rfl
    have aI : ∀ k, k ≠ 69 → (adv w p).1 k = w.1 k := fun k hk => by unfold adv; rw [upI_ne hk]
    refine pp_l (pk_ck (fun _ => pk_ck (fun _ => ?_)))
    rw [tnI (n := f) rfl (by omega), aR, a6.1, a6.2.1]
    have pf := cP p0 hp0.2 hp0.1 ar har6
    refine pk_bnd (pk_mo (pf.1 (adv w p) (fun k hk => h.2.1.2 k (by simp only [List.mem_cons, List.not_mem_nil, or_false] at hk; rcases hk with rfl | rfl | rfl <;> decide))) (fun u r hu => ?_))
    obtain ⟨rfl, hr1, hr2⟩ := hu
    have go : ∀ c : Bool, (c = true ↔ pd (w0.2.2.1 7 p0) (I (ar : Nat)) ≠ 0) → PK (fun (w2 : MS) (r : Unit) => FNZ N m0 w0 K T nm pd f p0 n0 mB wB (upI (upA (upA (upA (upA (upA (advc m p) 24 (upd ((advc m p).2.2.1 24) f ((advc m p).2.2.1 7 p0))) 25 (upd ((advc m p).2.2.1 25) f (I (a0.2.2.1 : Nat)))) 26 (upd ((advc m p).2.2.1 26) f ((advc m p).2.2.1 8 p0))) 27 (upd ((advc m p).2.2.1 27) f (I (a0.1 : Nat)))) 28 (upd ((advc m p).2.2.1 28) f (I ((((a0 :: l').map (fun b => b.1)).length : Nat) : Int)))) 442 (I ((f + 1 : Nat) : Int))) (.inl ()) w2 r) (fb_M_function0_259 N (gg_M_function0 N M') (adv w p) (I (f : Nat)) (b2c c)) := fun c hc => by
      unfold fb_M_function0_259
      refine pk_mo (dup_lp (f := f) (w := adv w p) (by omega) (by rw [aI 67 (by decide)]; exact h0) M' 0 c (Nat.zero_le _)) (fun w2 _ q => ?_)
      have key : (∀ k, k ≠ 71 → k ≠ 72 → w2.1 k = (adv w p).1 k) ∧ w2.2.2.1 = w.2.2.1 ∧ (w2.1 72 = 0 ↔ w.1 72 = 0 ∧ pd (w0.2.2.1 7 p0) (I (ar : Nat)) = 0 ∧ ∀ i, i < f → ¬ DUP w f i) := by
        rcases q with ⟨q, q1, q2, q3⟩ | ⟨⟨q0, q1⟩, rfl⟩
        · refine ⟨q2, q3, fun z => absurd z q1, fun z => ?_⟩
          exfalso
          rcases q with q | ⟨i, _, i2, i3⟩
          · exact (hc.mp q) z.2.1
          · exact z.2.2 i i2 i3
        · refine ⟨fun _ _ _ => rfl, rfl, fun z => ⟨by rw [← aI 72 (by decide)]; exact z, ?_, fun i hi => q1 i (Nat.zero_le _) hi⟩, fun z => by rw [aI 72 (by decide)]; exact z.1⟩
          by_cases y : pd (w0.2.2.1 7 p0) (I (ar : Nat)) = 0
          · exact y
          · rw [hc.mpr y] at q0
            exact absurd q0 (by decide)
      obtain ⟨e1, e2, e3⟩ := key
      have kI : ∀ k, k ≠ 69 → k ≠ 71 → k ≠ 72 → w2.1 k = w.1 k := fun k k1 k2 k3 => by rw [e1 k k2 k3]; exact aI k k1
      generalize hm5 : (upI (upA (upA (upA (upA (upA (advc m p) 24 (upd ((advc m p).2.2.1 24) f ((advc m p).2.2.1 7 p0))) 25 (upd ((advc m p).2.2.1 25) f (I (a0.2.2.1 : Nat)))) 26 (upd ((advc m p).2.2.1 26) f ((advc m p).2.2.1 8 p0))) 27 (upd ((advc m p).2.2.1 27) f (I (a0.1 : Nat)))) 28 (upd ((advc m p).2.2.1 28) f (I ((((a0 :: l').map (fun b => b.1)).length : Nat) : Int)))) 442 (I ((f + 1 : Nat) : Int))) = m5
      have jI : ∀ k, k ≠ 442 → k ≠ 665 → m5.1 k = m.1 k := fun k k1 k2 => by
        rw [← hm5, upI_ne k1]
        show (advc m p).1 k = _
        unfold advc
        rw [upI_ne k2]
      have j665 : m5.1 665 = I ((p + 1 : Nat) : Int) := by
        rw [← hm5, upI_ne (by decide)]
        show (advc m p).1 665 = _
        unfold advc
        rw [upI_at]
      have j442 : m5.1 442 = I ((f + 1 : Nat) : Int) := by rw [← hm5, upI_at]
      have jR : ∀ k, k < 24 ∨ 28 < k → m5.2.2.1 k = m.2.2.1 k := fun k hk => by
        rw [← hm5]
        show (upA (upA (upA (upA (upA (advc m p) 24 _) 25 _) 26 _) 27 _) 28 _).2.2.1 k = _
        rw [upA_no (by omega), upA_no (by omega), upA_no (by omega), upA_no (by omega), upA_no (by omega)]
        rfl
      have j24 : m5.2.2.1 24 = upd (m.2.2.1 24) f (m.2.2.1 7 p0) := by
        rw [← hm5]
        show (upA (upA (upA (upA (upA (advc m p) 24 _) 25 _) 26 _) 27 _) 28 _).2.2.1 24 = _
        rw [upA_no (by omega), upA_no (by omega), upA_no (by omega), upA_no (by omega), upA_at]
        rfl
      have j25 : m5.2.2.1 25 = upd (m.2.2.1 25) f (I (a0.2.2.1 : Nat)) := by
        rw [← hm5]
        show (upA (upA (upA (upA (upA (advc m p) 24 _) 25 _) 26 _) 27 _) 28 _).2.2.1 25 = _
        rw [upA_no (by omega), upA_no (by omega), upA_no (by omega), upA_at]
        rfl
      have j26 : m5.2.2.1 26 = upd (m.2.2.1 26) f (m.2.2.1 8 p0) := by
        rw [← hm5]
        show (upA (upA (upA (upA (upA (advc m p) 24 _) 25 _) 26 _) 27 _) 28 _).2.2.1 26 = _
        rw [upA_no (by omega), upA_no (by omega), upA_at]
        rfl
      have j27 : m5.2.2.1 27 = upd (m.2.2.1 27) f (I (a0.1 : Nat)) := by
        rw [← hm5]
        show (upA (upA (upA (upA (upA (advc m p) 24 _) 25 _) 26 _) 27 _) 28 _).2.2.1 27 = _
        rw [upA_no (by omega), upA_at]
        rfl
      have j28 : m5.2.2.1 28 = upd (m.2.2.1 28) f (I ((((a0 :: l').map (fun b => b.1)).length : Nat) : Int)) := by
        rw [← hm5]
        show (upA (upA (upA (upA (upA (advc m p) 24 _) 25 _) 26 _) 27 _) 28 _).2.2.1 28 = _
        rw [upA_at]
        rfl
      clear hm5
      have kc5 : Kcc m m5 := ⟨fun k hk => jI k (by omega) (by omega), fun k hk => jR k (by omega)⟩
      have nd5 : ∀ j, nod m5 j = nod m j ∧ m5.2.2.1 21 j = m.2.2.1 21 j := fun j => by
        unfold nod
        rw [jR 16 (by omega), jR 17 (by omega), jR 18 (by omega), jR 19 (by omega), jR 20 (by omega), jR 21 (by omega)]
        exact ⟨rfl, rfl⟩
      have kt : Ktc w w2 := ⟨fun k hk => kI k (by rintro rfl; revert hk; decide) (by rintro rfl; revert hk; decide) (by rintro rfl; revert hk; decide), fun k _ => by rw [e2]⟩
      have dupE : ∀ i, DUP w2 f i ↔ DUP w f i := fun i => by unfold DUP; rw [e2]
      have memE : ∀ b, b ∈ l ++ [a] ↔ b ∈ a0 :: l' := fun b => by rw [hl]
      refine ⟨p + 1, n, ar, a0, l', ⟨⟨Kc_tr h.1 kc5, Kt_tr h.2.1 kt, j665, ?_, pl, ?_, ?_⟩, by omega, ?_, by omega, by omega⟩, fun j hj => ?_, ⟨fun k hk => ?_, fun k hk => ?_, fun k k1 k2 j hj => ?_⟩, ⟨fun b hb => CLOb_k (all b hb) (fun j _ _ => ⟨(nd5 j).1, fun _ => (nd5 j).2⟩) kc5 (Nat.le_refl _) (Nat.le_refl _), NXT_k f4 (fun j _ => (nd5 j).2), ha, har, har6, hp0⟩, ⟨j442, ?_, ?_, ?_, ?_, ?_⟩, fun k hk => ?_, ?_, ?_, ?_, ?_, ?_, ?_⟩
      · rw [e1 69 (by decide) (by decide)]; unfold adv; rw [upI_at]
      · rw [jI 666 (by decide) (by decide), kI 70 (by decide) (by decide) (by decide)]; exact h.2.2.2.2.2.1
      · rw [kI 67 (by decide) (by decide) (by decide)]; exact h0
      · rw [jI 306 (by decide) (by decide)]; exact hn
      · exact ⟨(nd5 j).1.trans (ko j hj).1, (nd5 j).2.trans (ko j hj).2⟩
      · simp only [List.mem_cons, List.not_mem_nil, or_false, not_or] at hk
        rw [jI k hk.2.1 hk.2.2.2]
        exact pc.1 k (by simp only [List.mem_cons, List.not_mem_nil, or_false, not_or]; exact ⟨hk.1, hk.2.2.1, hk.2.2.2⟩)
      · rw [jR k (by omega)]; exact pc.2.1 k (by omega)
      · have := pc.2.1 k (by omega)
        have hk : k = 24 ∨ k = 25 ∨ k = 26 ∨ k = 27 ∨ k = 28 := by omega
        rcases hk with rfl | rfl | rfl | rfl | rfl
        · rw [j24, upd_no (by omega), this]
        · rw [j25, upd_no (by omega), this]
        · rw [j26, upd_no (by omega), this]
        · rw [j27, upd_no (by omega), this]
        · rw [j28, upd_no (by omega), this]
      · rw [j24, upd_at]; exact congrFun (h.1.2 7 (by decide)) p0
      · rw [j25, upd_at, har]
      · rw [j26, upd_at]; exact congrFun (h.1.2 8 (by decide)) p0
      · rw [j27, upd_at]
      · rw [j28, upd_at, List.length_map]; rfl
      · rw [kI k (by rintro rfl; revert hk; decide) (by rintro rfl; revert hk; decide) (by rintro rfl; revert hk; decide)]; exact a1 k hk
      · rw [kI 66 (by decide) (by decide) (by decide), a2]
        exact ⟨fun z => ⟨z.1, fun b hb => z.2 b ((memE b).mpr hb)⟩, fun z => ⟨z.1, fun b hb => z.2 b ((memE b).mp hb)⟩⟩
      · rw [e3, a3]
        exact ⟨fun z => ⟨z.1.1, fun b hb => z.1.2 b ((memE b).mpr hb), z.2.1, fun i hi => fun y => z.2.2 i hi ((dupE i).mp y)⟩, fun z => ⟨⟨z.1, fun b hb => z.2.1 b ((memE b).mp hb)⟩, z.2.2.1, fun i hi => fun y => z.2.2.2 i hi ((dupE i).mpr y)⟩⟩
      · refine CSZ_q (CSZ_r a4 (kI 32 (by decide) (by decide) (by decide)) (fun k _ _ => by rw [e2])) (fun x => ?_)
        exact ⟨fun ⟨b, b1, b2⟩ => ⟨b, (memE b).mp b1, b2⟩, fun ⟨b, b1, b2⟩ => ⟨b, (memE b).mpr b1, b2⟩⟩
      · rw [kI 52 (by decide) (by decide) (by decide)]; exact a5
      · rw [e2]
        exact ⟨a6.1, a6.2.1, a6.2.2, by rw [← len]; exact h51⟩
      · intro k k1 k2 j hj
        rw [e2]
        exact a7 k k1 k2 j hj
    by_cases z : pd (w0.2.2.1 7 p0) (I (ar : Nat)) = 0
    · rw [decide_eq_true (hr1.mpr z), br_tq]
      exact go false ⟨fun y => absurd y (by decide), fun y => absurd z y⟩
    · rw [decide_eq_false (fun y => z (hr1.mp y)), br_fq]
      exact go true ⟨fun _ => z, fun _ => rfl⟩
  · refine pp_rf (RFS_T (need_x (s := 28) hc k28 (by decide) rfl)) (fun mm => ?_)
    refine pk_bnd (pk_mo (ndS_0 (N := N) (s := 8) hw h0 (by decide) rfl k28) (fun v r2 z => ?_))
    have hz : Kfc v v := z
    refine Kf_pk (u0 := v) ?_
    obtain ⟨g0, g1⟩ := yf_gg_M_function0 (u0 := v) (N := N) M'
    repeat' (first | with_reducible assumption | with_reducible refine Kf_br ?_ ?_ | with_reducible refine Kf_bnd ?_ (fun _ _ _ => ?_) | with_reducible refine Kf_ck ?_ | with_reducible exact yf_fm_M_predefinedOf (by assumption) | with_reducible exact yf_fb_M_function0_259 (by assumption) g0 g1)
end
