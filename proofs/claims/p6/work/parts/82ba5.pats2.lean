set_option maxRecDepth 100000
def CSX (u : MS) (c : Nat) (ps : Nat → Nat) : Prop := CST u ∧ TKS u c ps
section
variable {u v w : MS} {N lv t t2 L i j k b b2 e f n cc : Nat} {l l2 : List Int} {x y c B B2 : Int} {H : List Nat} {ps : Nat → Nat}
theorem KMF.F (h : KMF u w) (hk : k ∉ [441, 706, 709, 711, 712, 713, 714]) : F w k = F u k := congrArg _ (h.1 k hk)
theorem KMF.A (h : KMF u w) (hk : j ∉ [23, 30, 31, 32, 39, 40, 41, 42]) : A w j k = A u j k := by show (w.2.2.1 j k).toInt = _; rw [h.2.2.1 j hk]; rfl
theorem FRp.m (h : FRp u w) : KMF u w := FR.mo h (by simp) (by simp) (by simp) (by simp)
theorem CST_f (h : CST u) (g : KMF u w) : CST w := by
  obtain ⟨h1, h2, h3, h4⟩ := h
  have eF : ∀ k, k ∉ [441, 706, 709, 711, 712, 713, 714] → w.1 k = u.1 k := g.1
  have eA : ∀ k, k ∉ [23, 30, 31, 32, 39, 40, 41, 42] → w.2.2.1 k = u.2.2.1 k := g.2.2.1
  refine ⟨by rw [g.F (k := 81) (by simp)]; exact h1, fun k hk => by rw [eA 5 (by simp)]; exact h2 k hk, ?_, by rw [g.F (k := 182) (by simp)]; exact h4⟩
  unfold WDc at h3 ⊢
  simp only [show 20 * 9 + 2 = 182 from rfl, show 9 + 1 = 10 from rfl, show 9 + 2 = 11 from rfl] at h3 ⊢
  simpa only [g.F (k := 182) (by simp), show ∀ j, A w 11 j = A u 11 j from fun j => g.A (by simp), show ∀ j, A w 10 j = A u 10 j from fun j => g.A (by simp), eA 10 (by simp), eA 11 (by simp)] using h3
theorem CSX_k (h : CSX u cc ps) (g : KMF u w) : CSX w cc ps := by
  refine ⟨CST_f h.1 g, ?_⟩
  obtain ⟨-, h1, h2, h3, h4, h5⟩ := h
  have eA : ∀ k, k ∉ [23, 30, 31, 32, 39, 40, 41, 42] → w.2.2.1 k = u.2.2.1 k := g.2.2.1
  refine ⟨⟨by rw [g.F (k := 85) (by simp)]; exact h1.1, h1.2⟩, by rw [g.A (j := 6) (by simp)]; exact h2, h3, by rw [g.F (k := 81) (by simp)]; exact h4, fun t ht => ?_⟩
  obtain ⟨k, h6, h7⟩ := h5 t ht
  exact ⟨k, by rw [g.A (j := 6) (by simp)]; exact h6, TVL_k h7 (g.A (by simp)) (eA 5 (by simp)) (by rw [g.F (k := 22) (by simp)]; omega) (by rw [g.F (k := 242) (by simp)]; omega)⟩
theorem ps_lt (h : CSX u cc ps) (ht : t < cc) : ps t < ps (t + 1) := by
  obtain ⟨k, -, h7⟩ := h.2.2.2.2.2 t ht
  exact h7.2.2.2.2
theorem ps_le (h : CSX u cc ps) : ∀ {a b : Nat}, a ≤ b → b ≤ cc → ps a ≤ ps b := by
  intro a b hab hb
  induction b with
  | zero => rw [show a = 0 by omega]; omega
  | succ b ih =>
    by_cases z : a = b + 1
    · rw [z]; omega
    · have := ih (by omega) (by omega)
      have := ps_lt h (t := b) (by omega)
      omega
theorem string_B {α : Type} {Q : MS → α → Prop} {g : MS → Unit → Option (MS × α)} {z : MS} (h0 : 1 ≤ F z 441) (e : EMc z u l) (hc : CSX u cc ps) (hn : n ≤ 8015) (ht : t < cc) (h4 : A u 6 t = 4) (ha : A u 18 n = A u 7 t) (hN : 100 ≤ N) (kk : ∀ w l2, EMc z w (l ++ (((l2.length : Nat) : Int) :: l2)) → l2.length ≤ 40 → ps t + l2.length + 2 ≤ ps (t + 1) → OK Q (g w ())) : OK Q (bnd (hm_Cm_string N u (I ((n : Nat) : Int))) g) := by
  obtain ⟨k, h6, h7⟩ := hc.2.2.2.2.2 t ht
  have hk4 : k = 4 := by omega
  obtain ⟨fr, L, h8, h9, h10, h11, h12⟩ := h7.2.2.2.1 hk4
  have hps : ps (t + 1) ≤ ps cc := ps_le hc (by omega) (Nat.le_refl _)
  have h81 := hc.2.2.2.2.1
  have hp4 := hc.2.2.2.1
  have g2 : ∀ (M d Ln : Nat) (l3 : List Int) (v : MS), EMc z v (l ++ (((Ln : Nat) : Int) :: l3)) → FR [441] [] [23] [] u v → l3.length = d → d ≤ Ln → Ln ≤ 40 → Ln ≤ L → Ln < M + d → OK Q (bnd ((hg_Cm_string N M).2 v (I ((fr : Nat) : Int)) (I ((Ln : Nat) : Int)) (I ((d : Nat) : Int))) g) := by
    intro M
    induction M with
    | zero => intro d Ln l3 v _ _ _ _ _ _ hM; omega
    | succ M ih =>
      intro d Ln l3 v ev fv hd hdL hL4 hLL hM
      rw [ok_bnd]
      show OK _ (hb_Cm_string_50 N (hg_Cm_string N M) v (I ((fr : Nat) : Int)) (I ((Ln : Nat) : Int)) (I ((d : Nat) : Int)))
      unfold hb_Cm_string_50
      refine k_le ⟨by omega, by omega⟩ ⟨by omega, by omega⟩ (fun q => ok_some.mpr ?_) (fun q => ?_)
      · have : Ln = l3.length := by omega
        subst this
        exact kk v l3 ev (by omega) (by omega)
      · rw [I_add]
        have fm : KMF u v := FR.mo fv (by simp) (by simp) (by simp) (by simp)
        obtain ⟨r, e1, -⟩ := signAt_e (N := N) (u := v) (x := ((fr : Nat) : Int) + ((d : Nat) : Int)) (CST_f hc.1 fm) ⟨by omega, by omega⟩
        rw [e1, bnd_so, lit1q, I_add, show ((d : Nat) : Int) + 1 = ((d + 1 : Nat) : Int) by omega, I_of r]
        rw [ok_bnd]
        have s1 : 1 ≤ F v 441 ∧ F v 441 ≤ 24000 := ⟨by have := ev.2.1.1; omega, ev.2.1.2.1⟩
        obtain ⟨w5, hw5, ew5⟩ := put_e (N := N) (u := v) (x := r.toInt) s1 (ti_rng r)
        rw [hw5]
        refine ok_some.mpr ?_
        have ev5 := EMc.tr h0 ev ew5
        rw [List.append_assoc, List.cons_append] at ev5
        exact ok_bnd.mp (ih (d + 1) Ln (l3 ++ [r.toInt]) w5 ev5 (fv.tr ew5.1) (by simp; omega) (by omega) hL4 hLL (by omega))
  have g1 : ∀ (M d : Nat), d ≤ L → L + 42 ≤ M + d → OK Q (bnd ((hg_Cm_string N M).1 u (I ((fr : Nat) : Int)) (I ((d : Nat) : Int))) g) := by
    intro M
    induction M with
    | zero => intro d _ hM; omega
    | succ M ih =>
      intro d hd hM
      rw [ok_bnd]
      show OK _ (hb_Cm_string_12 N (hg_Cm_string N M) u (I ((fr : Nat) : Int)) (I ((d : Nat) : Int)))
      have e39 : OK (fun u r => OK Q (g u r)) (hb_Cm_string_39 N (hg_Cm_string N M) u (I ((fr : Nat) : Int)) (I ((d : Nat) : Int))) := by
        unfold hb_Cm_string_39
        obtain ⟨w8, hw8, ew8⟩ := put_e (N := N) (u := u) (x := ((d : Nat) : Int)) ⟨by have := e.2.1.1; omega, e.2.1.2.1⟩ ⟨by omega, by omega⟩
        rw [hw8, bnd_so, lit0q]
        have e8 := EMc.tr h0 e ew8
        have f8 := ew8.1
        exact ok_bnd.mp (g2 M 0 d [] w8 e8 f8 rfl (by omega) (by omega) hd (by omega))
      unfold hb_Cm_string_12
      rw [show (40 : Int32) = I 40 from rfl]
      refine k_le ⟨by decide, by decide⟩ ⟨by omega, by omega⟩ (fun _ => e39) (fun q => ?_)
      rw [I_add]
      obtain ⟨r, e1, e2⟩ := signAt_e (N := N) (u := u) (x := ((fr : Nat) : Int) + ((d : Nat) : Int)) hc.1 ⟨by omega, by omega⟩
      rw [e1, bnd_so]
      refine ok_br.mpr ⟨fun _ => e39, fun q2 => ?_⟩
      rw [lit1q, I_add, show ((d : Nat) : Int) + 1 = ((d + 1 : Nat) : Int) by omega]
      have dl : d ≠ L := fun q3 => by
        rcases e2 with ⟨-, -, e3⟩ | ⟨e3, -⟩
        · rw [q3, show (((fr : Nat) : Int) + ((L : Nat) : Int)).toNat = fr + L by omega, h10] at e3
          rw [e3] at q2
          exact absurd q2 (by decide)
        · omega
      exact ok_bnd.mp (ih (d + 1) (by omega) (by omega))
  unfold hm_Cm_string hb_Cm_string_0
  rw [ok_bnd]
  refine e_in ⟨by omega, by omega⟩ (by decide) ?_
  rw [tnI (n := n) rfl (by omega), I_A (k := 18), ha, h8, lit0q]
  exact ok_bnd.mp (g1 N 0 (by omega) (by omega))
theorem KM_row (h : CVI u lv) (g : FR [] [] [39, 42] [] u w) : KMc u w lv := by
  have eF : ∀ k, F w k = F u k := fun k => congrArg _ (g.1 k (by simp))
  have eA : ∀ r k, r ∉ [39, 42] → A w r k = A u r k := fun r k hr => by show (w.2.2.1 r k).toInt = _; rw [g.2.2.1 r hr]; rfl
  refine ⟨FR.mo g (by simp) (by simp) (by simp) (by simp), ?_, by rw [eF]; omega, by rw [eF]; omega, fun z => by rw [eF] at z; exact z, ⟨eF _, eF _⟩, fun j _ => eA 40 _ (by simp), fun j _ => eA 41 _ (by simp), by rw [eA 41 _ (by simp)]; omega⟩
  unfold CVI
  simp only [eF, eA 40 _ (by simp), eA 41 _ (by simp)]
  exact h
theorem nameIn_ok (h : CVI u lv) (ht : t < 4002) (h4 : F u 706 < 4000) (hx : RG x) (hN : 10000 ≤ N) : OK (fun w _ => PQc u w lv 2 1) (hm_Cm_nameInPattern N u (I x) (I ((t : Nat) : Int))) := by
  have h3 := h.2.2.1
  have h7 := h.2.2.2.2.2.2.1
  unfold hm_Cm_nameInPattern hb_Cm_nameInPattern_0 hb_Cm_nameInPattern_92
  refine e_in ⟨by omega, by omega⟩ (by decide) (ok_lt.mpr ?_)
  rw [tnI (n := t) rfl (by omega), show (32 : Int32) = I 32 from rfl, wa_e]
  have g1 : FR [] [] [39, 42] [] u (wa u 42 t 32) := FR.wa FR.rf (by simp)
  generalize wa u 42 t 32 = v at g1
  have k1 := KM_row h g1
  have pv : FRp u v := FR.mo g1 (by simp) (by simp) (by simp) (by simp)
  have e4 : F v 441 = F u 441 := congrArg _ (g1.1 441 (by simp))
  have e6 : F v 706 = F u 706 := congrArg _ (g1.1 706 (by simp))
  have e9 : F v 709 = F u 709 := congrArg _ (g1.1 709 (by simp))
  have a23 : ∀ j, A v 23 j = A u 23 j := fun j => by show (v.2.2.1 23 j).toInt = _; rw [g1.2.2.1 23 (by simp)]; rfl
  have q1 : PQc u v lv 0 0 := ⟨pv, k1, fun j _ => a23 j, by omega, 0, by rw [e6]; simp, Nat.le_refl _, fun _ => by rw [e4]; exact PTS_n⟩
  have st : ∀ (y : Int) (z : MS) (Q : MS → Unit → Prop) (g : MS → Unit → Option (MS × Unit)), (y = 3 ∨ y = 4) → CVI z lv → (∀ w, EMc z w [y, x] → OK Q (g w ())) → OK Q (bnd (hm_Co_put N z (I y)) (fun u3 r3 => bnd (hm_Co_put N u3 (I x)) g)) := fun y z Q g hy hz hk => put_1 hz.1 ⟨by omega, by omega⟩ (fun w1 e1 => put_B hz.1.1 e1 hx (fun w2 e2 => hk w2 e2))
  have e46 : ∀ fr : Int, 0 ≤ fr ∧ fr ≤ 4000 → OK (fun w _ => PQc u w lv 2 1) (hb_Cm_nameInPattern_46 N () v (I x) (I x) (I ((t : Nat) : Int)) (I fr)) := fun fr hf => by
    unfold hb_Cm_nameInPattern_46 hb_Cm_nameInPattern_92
    rw [ok_bnd]
    refine ok_mono (isBound_ok (N := N) (nm := x) k1.2.1 ht hf hN) (fun v2 r2 hv2 => ?_)
    obtain ⟨g2, hr⟩ := hv2
    have g2' : FR [] [] [39, 42] [] v v2 := FR.mo g2 (by simp) (by simp) (by simp) (by simp)
    have k2 := KM_row k1.2.1 g2'
    have e42 : F v2 441 = F v 441 := congrArg _ (g2.1 441 (by simp))
    have e62 : F v2 706 = F v 706 := congrArg _ (g2.1 706 (by simp))
    have q2 : PQc v v2 lv 0 0 := ⟨FR.mo g2' (by simp) (by simp) (by simp) (by simp), k2, fun j _ => by show (v2.2.2.1 23 j).toInt = _; rw [g2.2.2.1 23 (by simp)]; rfl, by omega, 0, by rw [e62]; simp, Nat.le_refl _, fun _ => by rw [e42]; exact PTS_n⟩
    have q3 := PQ_tr h.1.1 q1 q2
    have ca : OK (fun w _ => PQc u w lv 2 1) (bnd (hm_Co_put N v2 4) (fun u3 r3 => bnd (hm_Co_put N u3 (I x)) (fun u6 r6 => bnd (hm_Cm_bind N u6 (I x)) (fun u8 r8 => some (u8, ()))))) := by
      rw [show (4 : Int32) = I 4 from rfl]
      refine st 4 v2 _ _ (Or.inr rfl) k2.2.1 (fun w5 e5 => ?_)
      have k5 := EMc.km k2.2.1 e5
      have e65 : F w5 706 = F u 706 := by rw [show F w5 706 = F v2 706 from congrArg _ (e5.1.1 706 (by simp)), e62, e6]
      rw [ok_bnd]
      refine ok_mono (bindC_ok (N := N) (x := x) k5.2.1 (by omega)) (fun w8 _ hw8 => ok_some.mpr ?_)
      obtain ⟨k8, e68, g8⟩ := hw8
      have e48 : F w8 441 = F w5 441 := congrArg _ (g8.1 441 (by simp))
      have a8 : ∀ j, A w8 23 j = A w5 23 j := fun j => by show (w8.2.2.1 23 j).toInt = _; rw [g8.2.2.1 23 (by simp)]; rfl
      have q8 : PQc v2 w8 lv 2 1 := by
        refine ⟨FR.tr (FR.mo e5.1 (by simp) (by simp) (by simp) (by simp)) (FR.mo g8 (by simp) (by simp) (by simp) (by simp)), k5.tr k8, fun j hj => by rw [a8, e5.2.2.1 j hj], ?_, 1, by omega, Nat.le_refl _, fun z => ?_⟩
        · have := e5.2.1.2.2
          simp at this
          omega
        · obtain ⟨z1, z2⟩ := e5.2.2.2 (by omega)
          have z3 := z2 0 (by simp)
          have s1 := k2.2.1.1.1
          simp at z1
          rw [show (F w8 441).toNat = (F v2 441).toNat + 2 by omega]
          exact PTS_4 (by rw [a8]; exact z3)
      exact PQ_w (PQ_tr h.1.1 q3 q8) (by omega) (by omega)
    have cb : OK (fun w _ => PQc u w lv 2 1) (bnd (hm_Co_put N v2 3) (fun u10 r10 => bnd (hm_Co_put N u10 (I x)) (fun u13 r13 => some (u13, ())))) := by
      rw [show (3 : Int32) = I 3 from rfl]
      refine st 3 v2 _ _ (Or.inl rfl) k2.2.1 (fun w5 e5 => ok_some.mpr ?_)
      have q8 := PQ_em k2.2.1 e5 (fun z z2 => PTS_3 (z2 0 (by simp)))
      exact PQ_w (PQ_tr h.1.1 q3 q8) (by simp) (by omega)
    exact ok_br.mpr ⟨fun _ => ca, fun _ => cb⟩
  refine ok_br.mpr ⟨fun _ => ?_, fun _ => ok_br.mpr ⟨fun _ => ?_, fun _ => ?_⟩⟩
  · rw [show (5 : Int32) = I 5 from rfl]
    refine put_1 k1.2.1.1 ⟨by decide, by decide⟩ (fun w1 e1 => ok_some.mpr ?_)
    have q8 := PQ_em k1.2.1 e1 (fun z z2 => PTS_5 (z2 0 (by simp)))
    exact PQ_w (PQ_tr h.1.1 q1 q8) (by simp) (by omega)
  · rw [lit0q]
    exact e46 0 (by omega)
  · rw [I_F (k := 709), e9, h3.1]
    refine e_in ⟨by omega, by omega⟩ (by decide) ?_
    rw [tnI (n := lv) rfl (by omega), I_A (k := 40)]
    have := (k1.2.1.2.2.2.2.2.2.1 lv (by omega)).1
    exact e46 _ this
end
