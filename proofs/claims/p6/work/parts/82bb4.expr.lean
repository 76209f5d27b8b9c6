set_option maxRecDepth 100000
def LiSc (N : Nat) (S : SF_Cm_fun) (o : Nat) : Prop := ∀ (f : Nat) (u : MS) (lv c Q : Nat) (ps : Nat → Nat) (n lo hi a b q r : Nat), f ≤ 120 → CMP u lv c ps Q o lo → HDc n lo hi a b q r → TLc u (XPc u f (o + 1) 3) n lo hi a q r → b ≤ 8000 → hi ≤ c → r ≤ Q → OK (fun w _ => PXS u w lv ps lo hi q r o False 1) (S.2.2.2.2.2.2.2.2.1 u (I ((n : Nat) : Int)))
def CoS (N : Nat) (S : SF_Cm_fun) (o cl : Nat) : Prop := ∀ (f : Nat) (u : MS) (lv c Q : Nat) (ps : Nat → Nat) (n lo hi a b q r la : Nat), f ≤ 120 → CMP u lv c ps Q o lo → XPc u f o cl n lo hi a b q r → (8 ≤ A u 16 n ∧ A u 16 n ≤ 13) ∨ (17 ≤ A u 16 n ∧ A u 16 n ≤ 21) → b ≤ 8000 → hi ≤ c → r ≤ Q → la ≤ 1 → OK (fun w _ => PXS u w lv ps lo hi q r o (la = 1) 1) (S.2.2.2.2.1 u (I ((n : Nat) : Int)) (I ((la : Nat) : Int)))
def CaS (N : Nat) (S : SF_Cm_fun) (o cl : Nat) : Prop := ∀ (f : Nat) (u : MS) (lv c Q : Nat) (ps : Nat → Nat) (n lo hi a b q r la : Nat), f ≤ 120 → CMP u lv c ps Q o lo → XPc u f o cl n lo hi a b q r → A u 16 n = 14 → b ≤ 8000 → hi ≤ c → r ≤ Q → la ≤ 1 → OK (fun w _ => PXS u w lv ps lo hi q r o (la = 1) 1) (S.2.2.2.2.2.2.1 u (I ((n : Nat) : Int)) (I ((la : Nat) : Int)))
def ApS (N : Nat) (S : SF_Cm_fun) (o cl : Nat) : Prop := ∀ (f : Nat) (u : MS) (lv c Q : Nat) (ps : Nat → Nat) (n lo hi a b q r la : Nat), f ≤ 120 → CMP u lv c ps Q o lo → XPc u f o cl n lo hi a b q r → A u 16 n = 15 → b ≤ 8000 → hi ≤ c → r ≤ Q → la ≤ 1 → OK (fun w _ => PXS u w lv ps lo hi q r o (la = 1) 1) (S.2.2.2.2.2.1 u (I ((n : Nat) : Int)) (I ((la : Nat) : Int)))
def SiS (N : Nat) (S : SF_Cm_fun) (o : Nat) : Prop := ∀ (f j : Nat) (u : MS) (lv c Q : Nat) (ps : Nat → Nat) (m lo hi a b q r : Nat), f ≤ 120 → CMP u lv c ps Q o lo → SFc u (XPc u f o 1) hi b r j m lo a q 0 none none → lo < hi → b ≤ 8000 → hi ≤ c → r ≤ Q → OK (fun w _ => PXS u w lv ps lo hi q r o False 1) (S.2.2.2.2.2.2.2.1 u (I ((m : Nat) : Int)))
section
variable {u v w : MS} {N lv t hi hi2 lo lo2 o o2 q r s c h m g x d a b k n f Q cl : Nat} {ps : Nat → Nat} {S : SF_Cm_fun} {la : Prop}
theorem listC_ok (hE : ExS N S (o + 1) 3) (hR : RoS N S (o + 1)) {S2 : SF_Cm_fun} (h2 : S2.2.2.2.2.2.2.2.2.1 = hm_Cm_list N S) : LiSc N S2 o := by
  intro f u lv c Q ps n lo hi a b q r hf hu hd h hb hh hQ
  rw [h2]
  unfold HDc at hd
  obtain ⟨k, m, mid, c1, s, e18, e19, hk, hr, ht⟩ := h
  have hcs := CMP_c hu
  have g1 := OR_hd (XP_bd f (o + 1) 3) hr
  have g2k := OR_2k (XP_bd f (o + 1) 3) hr
  have hms : mid + 1 ≤ hi ∧ s ≤ r ∧ c1 ≤ b := by
    rcases ht with ⟨-, h1, h3, h4⟩ | ⟨-, x, c2, -, h3, h4⟩
    · omega
    · have := XP_bd f (o + 1) 3 _ _ _ _ _ _ _ h3; unfold HDc at this; omega
  have i1 : inb (I ((n : Nat) : Int)) 8016 = true := (I_inb (by omega) (by omega)).mpr ⟨by omega, by omega⟩
  unfold hm_Cm_list hb_Cm_list_0
  rw [i1, tnI (n := n) rfl (by omega), ck_t, I_A (k := 18), e18, ok_bnd]
  refine ok_mono (hR f k u lv c Q ps m (lo + 1) mid a c1 q s hf (CMP_m hu (by omega) (by omega)) hr (by clear ht; omega) (by clear ht; omega) (by clear ht; omega)) (fun v _ p1 => ?_)
  rw [ck_t, I_A (k := 20), p1.1.1.A (j := 20) (by simp)]
  have cv := CMP_s (o2 := o + 1) (CMP_m hu (lo2 := lo + 1) (o2 := o + 1) (by omega) (by omega)) p1 (by omega) (lo2 := mid + 1) (by omega) (Nat.le_refl _)
  have fin : ∀ v2, PCQ v v2 lv (WBc ps mid (hi - 1) + 3) (hi - 1 - mid) (hi - 1) s r (TYX v v2 lv (mid + 1) s r (o + 1) False 1) → OK (fun w _ => PXS u w lv ps lo hi q r o False 1) (hb_Cm_list_57 N S () v2 (I ((n : Nat) : Int))) := fun v2 p2 => by
    have wb := WB_2 hcs.1 (lo := lo + 1) (m := mid) (lo2 := mid) (hi := hi - 1) (by clear ht; omega) (by clear ht; omega) (by clear ht; omega) (by clear ht; omega)
    have wb2 := WB_1 hcs.1 (lo := lo) (lo2 := lo + 1) (hi2 := hi - 1) (hi := hi) (by omega) (by clear ht; omega) (by clear ht; omega) hh
    have p3 := PC_two hu.1 p1 p2 (by clear ht; omega) (by clear ht; omega) (by clear ht; omega) (hd := by clear ht; omega) (W := WBc ps (lo + 1) (hi - 1) + 3) (t := hi - lo) (by clear ht; omega) (by clear ht; omega)
    unfold hb_Cm_list_57 hb_Cm_list_93
    rw [i1, tnI (n := n) rfl (by omega), ck_t, I_A (k := 19), p3.1.1.A (j := 19) (by simp), e19, lit0q]
    refine k_le ⟨by omega, by omega⟩ ⟨by decide, by decide⟩ (fun z => ok_some.mpr ?_) (fun z => ?_)
    · have : k = 0 := by omega
      subst this
      exact PC_w p3 (by clear ht; omega) (by omega) (by omega) (fun _ y => TY_mo y (by omega) (by omega) (fun z => z))
    · refine put_1 (x := 5) p3.1.2.1.1 ⟨by decide, by decide⟩ (fun w1 e1 => ?_)
      rw [ck_t, I_A (k := 19), (EMc.km p3.1.2.1 e1).1.A (j := 19) (by simp), p3.1.1.A (j := 19) (by simp), e19]
      refine put_B (x := ((k : Nat) : Int)) p3.1.2.1.1.1 e1 ⟨by omega, by omega⟩ (fun w2 e2 => ok_some.mpr ?_)
      have p4 := PC_tail (hi := hi) (W := WBc ps lo hi) (la := False) (d2 := 1) p3 e2 (by clear ht; omega) (by omega) (by simp; clear ht; omega) (fun z => z) (fun h m L g x p _ l15 hm hh hw => by
        have j := SG_lst (u := w2) (a := szc v2) (n := k) (q := r) (z := h) (h := h + (k + 1)) (m := m + knc u v2) (L := L) (g := g) (x := x) (by omega) (by clear ht; omega) hm (hw 0 (by simp)) (hw 1 (by simp)) ⟨by omega, by omega⟩
        rw [show h + (k + 1) - k = h + 1 by omega] at j
        exact j)
      exact PC_w p4 (Int.le_refl _) (Nat.le_refl _) (Nat.le_refl _) (fun _ y => TY_mo y (by omega) (by omega) (fun z => z))
  rcases ht with ⟨e20, rfl, rfl, h4⟩ | ⟨h1, x, c2, e20, h3, h4⟩
  · rw [e20]
    refine k_c (y := 0) rfl ⟨by decide, by decide⟩ ⟨by decide, by decide⟩ (fun _ => ?_) (fun z => absurd rfl z)
    refine put_1 (x := 1) cv.1.1 ⟨by decide, by decide⟩ (fun w1 e1 => ?_)
    refine term_B (x := 6) (y := 0) cv.1.1.1 e1 ⟨by decide, by decide⟩ ⟨by decide, by decide⟩ (fun w2 e2 => fin w2 ?_)
    have p2 := PC_one (hi := mid) (W := 3) (t := 0) (q := s) (lo := mid + 1) (o := o + 1) (la := False) (d := 1) cv.1 e2 (by simp) (fun h m L g x p _ l15 hm hh hw => SG_term (Nat.le_refl _) (by omega) hm (hw 0 (by simp)) (Or.inr (Or.inr ⟨hw 1 (by simp), hw 2 (by simp)⟩)))
    have e0 : WBc ps mid (mid + 1 - 1) = 0 := by unfold WBc; simp
    rw [e0]
    exact PC_w p2 (by omega) (by omega) (by omega) (fun _ y => y)
  · have g2 := XP_bd f (o + 1) 3 _ _ _ _ _ _ _ h3
    unfold HDc at g2
    rw [e20]
    refine k_c (y := 0) rfl ⟨by omega, by omega⟩ ⟨by decide, by decide⟩ (fun z => absurd z (by omega)) (fun _ => ?_)
    rw [ck_t, ok_bnd]
    refine ok_mono (hE f v lv c Q ps x (mid + 1) (hi - 1) c1 c2 s r 0 hf cv (XP_k (Nat.le_refl _) (Nat.le_refl _) _ _ _ _ _ _ _ h3 (KN_m p1.1.1)) (by omega) (by omega) hQ (by omega)) (fun v2 _ p2 => fin v2 ?_)
    have wb := WB_1 hcs.1 (lo := mid) (lo2 := mid + 1) (hi2 := hi - 1) (hi := hi - 1) (by omega) (by omega) (by omega) (by omega)
    exact PC_w p2 (by omega) (by omega) (Nat.le_refl _) (fun _ y => TY_mo y (Nat.le_refl _) (Nat.le_refl _) (fun z => absurd z (by decide)))
theorem expr_okc (hE : ExS N S (o + 1) 3) (hR : RoS N S (o + 1)) (hL : LiSc N S o) (hC : CoS N S o cl) (hA : CaS N S o cl) (hP : ApS N S o cl) (hI : 2 ≤ cl → SiS N S o) (hN : 10000 ≤ N) {S2 : SF_Cm_fun} (h2 : S2.2.2.2.2.2.2.2.2.2.2.1 = hm_Cm_expression N S) : ExS N S2 o cl := by
  intro f u lv c Q ps n lo hi a b q r la hf hu hX hb hh hQ hla
  rw [h2]
  have hX0 := hX
  cases f with
  | zero => exact hX.elim
  | succ f =>
  obtain ⟨hd, htk, ho, hX⟩ := hX
  unfold HDc at hd
  have hcs := CMP_c hu
  have cu := hu.1
  unfold hm_Cm_expression hb_Cm_expression_0
  have i1 : inb (I ((n : Nat) : Int)) 8016 = true := (I_inb (by omega) (by omega)).mpr ⟨by omega, by omega⟩
  rw [i1, tnI (n := n) rfl (by omega), ck_t, ck_t, I_A (k := 16)]
  have dn : ∀ {x : Option (MS × Unit)}, OK (fun w _ => PXS u w lv ps lo hi q r o (la = 1) 1) x → OK (fun w _ => PXS u w lv ps lo hi q r o (la = 1) 1) (bnd x (fun u1 _ => hb_Cm_expression_359 N S () u1)) := fun hx => by
    rw [ok_bnd]
    exact ok_mono hx (fun w _ hw => ok_some.mpr hw)
  have w0 : 12 * ((hi - lo : Nat) : Int) ≤ WBc ps lo hi := WB_0
  rcases hX with ⟨⟨l16, l6, l17, l18⟩, rfl, rfl⟩ | ⟨e16, m, c1, e18, hx, hcn⟩ | ⟨e16, hx⟩ | ⟨e16, hx⟩ | ⟨e16, -⟩ | ⟨e16, -⟩ | ⟨e16, -⟩ | ⟨e16, -⟩ | ⟨e16, -⟩ | ⟨e16, -⟩ | ⟨e16, -⟩ | ⟨e16, -⟩ | ⟨e16, -⟩ | ⟨e16, -⟩ | ⟨e16, -⟩ | ⟨e16, -⟩ | ⟨e16, hcl, j, m, c1, e18, hx, hcn⟩
  · have tv := hcs.1.2.2.2.2.2 lo (by omega)
    obtain ⟨kk, tv1, tv2⟩ := tv
    rcases (by omega : A u 6 lo = 1 ∨ A u 6 lo = 2 ∨ A u 6 lo = 3 ∨ A u 6 lo = 4) with l | l | l | l
    · rw [l16.trans l]
      show OK _ (bnd (hm_Co_put N u 1) (fun u24 _ => ck true (bnd (hm_Cm_term N u24 0 (u24.2.2.1 18 n)) (fun u31 _ => hb_Cm_expression_359 N S () u31))))
      refine put_1 (x := 1) cu.1 ⟨by decide, by decide⟩ (fun w1 e1 => ?_)
      rw [ck_t, I_A (k := 18)]
      refine term_B (x := 0) cu.1.1 e1 ⟨by decide, by decide⟩ (A_r _ _ _) (fun w2 e2 => ok_some.mpr ?_)
      exact PC_one cu e2 (by simp; omega) (fun h m L g x p _ l15 hm hh hw => SG_term (Nat.le_refl _) (by omega) hm (hw 0 (by simp)) (Or.inl (hw 1 (by simp))))
    · rw [l16.trans l]
      show OK _ (bnd (hm_Co_put N u 1) (fun u24 _ => ck true (bnd (hm_Cm_term N u24 1 (u24.2.2.1 18 n)) (fun u31 _ => hb_Cm_expression_359 N S () u31))))
      refine put_1 (x := 1) cu.1 ⟨by decide, by decide⟩ (fun w1 e1 => ?_)
      rw [ck_t, I_A (k := 18)]
      refine term_B (x := 1) cu.1.1 e1 ⟨by decide, by decide⟩ (A_r _ _ _) (fun w2 e2 => ok_some.mpr ?_)
      refine PC_one cu e2 (by simp; omega) (fun h m L g x p _ l15 hm hh hw => SG_term (Nat.le_refl _) (by omega) hm (hw 0 (by simp)) (Or.inr (Or.inl ⟨hw 1 (by simp), ?_⟩)))
      have h2 : A w2 23 (szc u + 2) = A u 18 n := (hw 2 (by simp)).trans ((EMc.km cu e1).1.A (j := 18) (by simp))
      rw [show A w2 23 (szc u + 2) = A u 7 lo from h2.trans l18, show F w2 22 = F u 22 from congrArg _ (e2.1.1 22 (by simp))]
      exact tv2.2.1 (by omega)
    · rw [l16.trans l]
      show OK _ (ck true (br (decide ((u.2.2.1 18 n) = 0)) (hb_Cm_expression_221 N S () u (I ((n : Nat) : Int)) (u.2.2.1 17 n)) (ck true (bnd (hm_Cm_isBound N u (u.2.2.1 18 n) (u.2.2.1 17 n) 0) (fun u51 r51 => br (decide (r51 = 0)) (hb_Cm_expression_221 N S () u51 (I ((n : Nat) : Int)) (u.2.2.1 17 n)) (hb_Cm_expression_227 N S () u51 (I ((n : Nat) : Int))))))))
      have e227 : ∀ v, KMc u v lv → FR [714] [] [42] [] u v → OK (fun w _ => PXS u w lv ps lo (lo + 1) q q o (la = 1) 1) (hb_Cm_expression_227 N S () v (I ((n : Nat) : Int))) := fun v k1 f1 => by
        unfold hb_Cm_expression_227
        refine put_1 (x := 3) k1.2.1.1 ⟨by decide, by decide⟩ (fun w1 e1 => ?_)
        rw [i1, tnI (n := n) rfl (by omega), ck_t, I_A (k := 18)]
        refine put_B k1.2.1.1.1 e1 (A_r _ _ _) (fun w2 e2 => ok_some.mpr ?_)
        refine PC_pre (hi1 := 0) (PC_fr k1 f1) (PC_one k1.2.1 e2 (by simp; omega) (fun h m L g x p _ l15 hm hh hw => SG_name (Nat.le_refl _) (by omega) hm (hw 0 (by simp)))) (by omega) (Nat.le_refl _) (fun z => z)
      have e221 : ∀ v, KMc u v lv → FR [714] [] [42] [] u v → OK (fun w _ => PXS u w lv ps lo (lo + 1) q q o (la = 1) 1) (hb_Cm_expression_221 N S () v (I ((n : Nat) : Int)) (I ((lo : Nat) : Int))) := fun v k1 f1 => by
        unfold hb_Cm_expression_221
        exact fault_B (x := ((lo : Nat) : Int)) (y := 5) k1.2.1 ⟨by omega, by omega⟩ ⟨by decide, by decide⟩ (fun w k2 f2 _ => e227 w (KMc.tr k1 k2) (FR.tr f1 (FR.mo f2 (by simp) (by simp) (by simp) (by simp))))
      rw [ck_t, ck_t, I_A (k := 18), I_A (k := 17), l17]
      refine k_c (y := 0) rfl (A_r _ _ _) ⟨by decide, by decide⟩ (fun _ => e221 u (KMc.rf cu) FR.rf) (fun _ => ?_)
      rw [ok_bnd]
      refine ok_mono (isBound_ok (N := N) (fr := 0) cu (t := lo) (by omega) (by omega) hN) (fun v r hv => ?_)
      have k1 := KM_row cu (FR.mo hv.1 (by simp) (by simp) (by simp) (by simp))
      have f1 : FR [714] [] [42] [] u v := FR.mo hv.1 (by simp) (by simp) (by simp) (by simp)
      exact ok_br.mpr ⟨fun _ => e221 v k1 f1, fun _ => e227 v k1 f1⟩
    · rw [l16.trans l]
      show OK _ (bnd (hm_Cm_notInGuard N u (u.2.2.1 17 n)) (fun u52 _ => bnd (hm_Co_put N u52 2) (fun u54 _ => bnd (hm_Cm_string N u54 (I ((n : Nat) : Int))) (fun u56 _ => hb_Cm_expression_359 N S () u56))))
      rw [I_A (k := 17), l17]
      refine notIn_B cu ⟨by omega, by omega⟩ (fun v k1 f1 _ => ?_)
      refine put_1 (x := 2) k1.2.1.1 ⟨by decide, by decide⟩ (fun w1 e1 => ?_)
      have k2 := KMc.tr k1 (EMc.km k1.2.1 e1)
      refine string_B (t := lo) (n := n) (N := N) k1.2.1.1.1 e1 (CSX_k hcs.1 k2.1) (by omega) (by omega) (by rw [k2.1.A (j := 6) (by simp)]; exact l) (by rw [k2.1.A (j := 18) (by simp), k2.1.A (j := 7) (by simp)]; exact l18) (by omega) (fun w2 l2 e2 h40 hps => ok_some.mpr ?_)
      refine PC_pre (hi1 := 0) (PC_fr k1 (FR.mo f1 (by simp) (by simp) (by simp) (by simp))) (PC_one k1.2.1 e2 (by unfold WBc; simp; omega) (fun h m L g x p _ l15 hm hh hw => ?_)) (by omega) (Nat.le_refl _) (fun z => z)
      have j := SG_str (u := w2) (a := szc v) (n := l2.length) (q := q) (z := h) (h := h) (m := m) (L := L) (g := g) (x := x) (Nat.le_refl _) (by omega) hm (hw 0 (by simp)) (hw 1 (by simp)) h40
      have el : (([2] : List Int) ++ (((l2.length : Nat) : Int) :: l2)).length = 2 + l2.length := by simp; omega
      rw [el]
      exact j
  · rw [e16]
    show OK _ (ck true (bnd (S.2.2.2.2.2.2.2.2.2.2.1 u (u.2.2.1 18 n) (I ((la : Nat) : Int))) (fun u62 _ => hb_Cm_expression_359 N S () u62)))
    rw [ck_t, I_A (k := 18), e18]
    have g1 := XP_bd f (o + 1) 3 _ _ _ _ _ _ _ hx
    unfold HDc at g1
    exact dn (ok_mono (hE f u lv c Q ps m (lo + 1) (hi - 1) a c1 q r la (by omega) (CMP_m hu (by omega) (by omega)) hx (by omega) (by omega) hQ hla) (fun w _ p => PX_mo p hcs.1 (by omega) (by omega) (by omega) hh (by omega) (fun z => z)))
  · rw [e16]
    show OK _ (ck true (bnd (S.2.2.2.2.2.2.2.2.2.1 u (u.2.2.1 18 n)) (fun u68 _ => bnd (hm_Co_put N u68 4) (fun u70 _ => ck true (bnd (hm_Co_put N u70 (u70.2.2.1 19 n)) (fun u78 _ => hb_Cm_expression_359 N S () u78))))))
    obtain ⟨k, m, c1, e18, e19, hk, hr, hcn⟩ := hx
    have g1 := OR_hd (XP_bd f (o + 1) 3) hr
    rw [ck_t, I_A (k := 18), e18, ok_bnd]
    refine ok_mono (hR f k u lv c Q ps m (lo + 1) (hi - 1) a c1 q r (by omega) (CMP_m hu (by omega) (by omega)) hr (by omega) (by omega) hQ) (fun v _ p1 => ?_)
    refine put_1 (x := 4) p1.1.2.1.1 ⟨by decide, by decide⟩ (fun w1 e1 => ?_)
    rw [ck_t, I_A (k := 19), (EMc.km p1.1.2.1 e1).1.A (j := 19) (by simp), p1.1.1.A (j := 19) (by simp), e19]
    refine put_B (x := ((k : Nat) : Int)) p1.1.2.1.1.1 e1 ⟨by omega, by omega⟩ (fun w2 e2 => ok_some.mpr ?_)
    have wb := WB_1 hcs.1 (lo := lo) (lo2 := lo + 1) (hi2 := hi - 1) (hi := hi) (by omega) (by omega) (by omega) hh
    have p4 := PC_tail (hi := hi) (W := WBc ps lo hi) (la := la = 1) (d2 := 1) p1 e2 (by omega) (by omega) (by simp; omega) (fun z => z.elim) (fun h m L g x p _ l15 hm hh hw => by
      have j := SG_tup (u := w2) (a := szc v) (n := k) (q := r) (z := h) (h := h + k) (m := m + knc u v) (L := L) (g := g) (x := x) (by omega) (by omega) hm (hw 0 (by simp)) (hw 1 (by simp)) (by omega)
      rw [show h + k - k = h by omega] at j
      exact j)
    exact PC_w p4 (Int.le_refl _) (by omega) (Nat.le_refl _) (fun _ y => TY_mo y (by omega) (by omega) (fun z => z))
  · rw [e16]
    show OK _ (bnd (S.2.2.2.2.2.2.2.2.1 u (I ((n : Nat) : Int))) (fun u80 _ => hb_Cm_expression_359 N S () u80))
    exact dn (ok_mono (hL f u lv c Q ps n lo hi a b q r (by omega) hu hd hx hb hh hQ) (fun w _ p => PC_w p (Int.le_refl _) (Nat.le_refl _) (Nat.le_refl _) (fun _ y => TY_mo y (Nat.le_refl _) (Nat.le_refl _) (fun z => z.elim))))
  · have cc := hC (f + 1) u lv c Q ps n lo hi a b q r la hf hu hX0 (by omega) hb hh hQ hla
    rw [e16]
    exact dn cc
  · have cc := hC (f + 1) u lv c Q ps n lo hi a b q r la hf hu hX0 (by omega) hb hh hQ hla
    rw [e16]
    exact dn cc
  · have cc := hC (f + 1) u lv c Q ps n lo hi a b q r la hf hu hX0 (by omega) hb hh hQ hla
    rw [e16]
    exact dn cc
  · have cc := hC (f + 1) u lv c Q ps n lo hi a b q r la hf hu hX0 (by omega) hb hh hQ hla
    rw [e16]
    exact dn cc
  · have cc := hC (f + 1) u lv c Q ps n lo hi a b q r la hf hu hX0 (by omega) hb hh hQ hla
    rw [e16]
    exact dn cc
  · have cc := hC (f + 1) u lv c Q ps n lo hi a b q r la hf hu hX0 (by omega) hb hh hQ hla
    rw [e16]
    exact dn cc
  · have cc := hA (f + 1) u lv c Q ps n lo hi a b q r la hf hu hX0 e16 hb hh hQ hla
    rw [e16]
    exact dn cc
  · have cc := hP (f + 1) u lv c Q ps n lo hi a b q r la hf hu hX0 e16 hb hh hQ hla
    rw [e16]
    exact dn cc
  · have cc := hC (f + 1) u lv c Q ps n lo hi a b q r la hf hu hX0 (by omega) hb hh hQ hla
    rcases e16 with e16 | e16
    · rw [e16]
      exact dn cc
    · rw [e16]
      exact dn cc
  · have cc := hC (f + 1) u lv c Q ps n lo hi a b q r la hf hu hX0 (by omega) hb hh hQ hla
    rw [e16]
    exact dn cc
  · have cc := hC (f + 1) u lv c Q ps n lo hi a b q r la hf hu hX0 (by omega) hb hh hQ hla
    rw [e16]
    exact dn cc
  · have cc := hC (f + 1) u lv c Q ps n lo hi a b q r la hf hu hX0 (by omega) hb hh hQ hla
    rw [e16]
    exact dn cc
  · rw [e16]
    show OK _ (ck true (bnd (S.2.2.2.2.2.2.2.1 u (u.2.2.1 18 n)) (fun u100 _ => hb_Cm_expression_359 N S () u100)))
    rw [ck_t, I_A (k := 18), e18]
    exact dn (ok_mono (hI hcl f j u lv c Q ps m lo hi a c1 q r (by omega) hu hx (by omega) (by omega) hh hQ) (fun w _ p => PC_w p (Int.le_refl _) (Nat.le_refl _) (Nat.le_refl _) (fun _ y => TY_mo y (Nat.le_refl _) (Nat.le_refl _) (fun z => z.elim))))
end
