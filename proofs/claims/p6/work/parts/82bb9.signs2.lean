set_option maxRecDepth 100000
def WSc (ps : Nat → Nat) (lo x : Nat) : Int := if x ≤ lo then 0 else WBc ps lo (x - 1) + 4
section
variable {u v w : MS} {N lv t hi lo o q r s c h m g x d a b k n f Q q2 q3 p : Nat} {ps : Nat → Nat} {S : SF_Cm_fun}
theorem signsX_ok (hE : ExS N S o 1) (hu : CMP u lv c ps Q o lo) (hf : f ≤ 120) (hN : 24002 ≤ N) (hh : hi ≤ c) (hb : b ≤ 8000) (hQ : r ≤ Q) (hlh : lo < hi) : ∀ (j M n x c2 q2 s : Nat) (aa oo : Option Nat) (ca ka cb kb : Int) (pa pb : Nat) (v : MS), SFc v (XPc v f o 1) hi b r j n x c2 q2 s aa oo → PCQ u v lv (WSc ps lo x - 4 * ((s : Nat) : Int) - 2 * evc aa - 2 * evc oo) (x - 1 - lo) hi q q2 (SGH u v lv lo q q2 o s (HL aa oo pa pb ka kb) ∧ (aa ≠ none → ca = ((pa : Nat) : Int)) ∧ (oo ≠ none → cb = ((pb : Nat) : Int))) → (lo + 2 * s ≤ x ∧ q ≤ q2 ∧ lo ≤ x) → (RG ca ∧ RG cb) → ((aa ≠ none → F u 706 ≤ ka ∧ ka ≤ F v 706) ∧ (oo ≠ none → F u 706 ≤ kb ∧ kb ≤ F v 706) ∧ (aa ≠ none → oo ≠ none → kb ≤ ka)) → j + 1 ≤ M → OK (fun w _ => PXS u w lv ps lo hi q r o False 1) (hg_Cm_signs N S M v (I ca) (I ka) (I cb) (I kb) (I ((n : Nat) : Int))) := by
  intro j
  induction j with
  | zero =>
    intro M n x c2 q2 s aa oo ca ka cb kb pa pb v h pv hx hr hk hM
    obtain ⟨rfl, rfl, -, rfl, rfl, rfl, rfl⟩ := h
    obtain ⟨M, rfl⟩ : ∃ M2, M = M2 + 1 := ⟨M - 1, by omega⟩
    show OK _ (hb_Cm_signs_13 N S (hg_Cm_signs N S M) v (I ca) (I ka) (I cb) (I kb) (I 0))
    unfold hb_Cm_signs_13
    refine k_c (y := 0) rfl ⟨by decide, by decide⟩ ⟨by decide, by decide⟩ (fun _ => ok_some.mpr ?_) (fun z => absurd rfl z)
    exact PC_w pv (by simp only [evc]; unfold WSc; rw [show hi + 1 - 1 = hi by omega, if_neg (by omega)]; omega) (by omega) (Nat.le_refl _) (fun _ y h m L g x p => y.1.2.2 h m L g x p)
  | succ j ih =>
    intro M n x c2 q2 s aa oo ca ka cb kb pa pb v h pv hx hr hk hM
    obtain ⟨hn1, n2, x2, c3, q3, s2, aa2, oo2, hs, e21, hnx⟩ := h
    obtain ⟨M, rfl⟩ : ∃ M2, M = M2 + 1 := ⟨M - 1, by omega⟩
    have hd := STP_hd (XP_bd f o 1) hs
    have hd2 := SF_hd (XP_bd f o 1) hnx
    have hcs := CMP_c hu
    have cv := pv.1.2.1
    have cu := hu.1
    have i1 : inb (I ((n : Nat) : Int)) 8016 = true := (I_inb (by omega) (by omega)).mpr ⟨by omega, by omega⟩
    have nx : ∀ (w : MS) (ca ka cb kb : Int) (pa pb : Nat), KMF v w → PCQ u w lv (WSc ps lo x2 - 4 * ((s2 : Nat) : Int) - 2 * evc aa2 - 2 * evc oo2) (x2 - 1 - lo) hi q q3 (SGH u w lv lo q q3 o s2 (HL aa2 oo2 pa pb ka kb) ∧ (aa2 ≠ none → ca = ((pa : Nat) : Int)) ∧ (oo2 ≠ none → cb = ((pb : Nat) : Int))) → (lo + 2 * s2 ≤ x2 ∧ q ≤ q3 ∧ lo ≤ x2) → (RG ca ∧ RG cb) → ((aa2 ≠ none → F u 706 ≤ ka ∧ ka ≤ F w 706) ∧ (oo2 ≠ none → F u 706 ≤ kb ∧ kb ≤ F w 706) ∧ (aa2 ≠ none → oo2 ≠ none → kb ≤ ka)) → OK (fun w _ => PXS u w lv ps lo hi q r o False 1) (hb_Cm_signs_198 N S (hg_Cm_signs N S M) w (I ca) (I ka) (I cb) (I kb) (I ((n : Nat) : Int))) := fun w ca ka cb kb pa pb kw pw h1 h2 h3 => by
      unfold hb_Cm_signs_198
      rw [i1, ck_t, tnI (n := n) rfl (by omega), I_A (k := 21), kw.A (j := 21) (by simp), e21]
      exact ih M n2 x2 c3 q3 s2 aa2 oo2 ca ka cb kb pa pb w (SF_k (XP_k (Nat.le_refl _) (Nat.le_refl _)) (XP_bd f o 1) hnx (KN_m kw)) pw h1 h2 h3 (by omega)
    show OK _ (hb_Cm_signs_13 N S (hg_Cm_signs N S M) v (I ca) (I ka) (I cb) (I kb) (I ((n : Nat) : Int)))
    unfold hb_Cm_signs_13
    refine k_c (y := 0) rfl ⟨by omega, by omega⟩ ⟨by decide, by decide⟩ (fun z => absurd z (by omega)) (fun _ => ?_)
    rw [i1, ck_t, ck_t, tnI (n := n) rfl (by omega), I_A (k := 16), I_A (k := 18)]
    rcases hs with ⟨⟨m, e, rfl⟩, rfl, rfl, rfl⟩ | ⟨⟨rfl, hcn, -, rfl⟩, ⟨tk, e17, -, htk⟩, hs⟩
    · have e16 := XP_16 e
      have ge := XP_bd f o 1 _ _ _ _ _ _ _ e
      unfold HDc at ge
      have un : OK (fun w _ => PXS u w lv ps lo hi q r o False 1) (bnd (S.2.2.2.2.2.2.2.2.2.2.1 v (I ((n : Nat) : Int)) 0) (fun u20 _ => hb_Cm_signs_198 N S (hg_Cm_signs N S M) u20 (I ca) (I ka) (I cb) (I kb) (I ((n : Nat) : Int)))) := by
        rw [ok_bnd]
        refine ok_mono (hE f v lv c Q ps n x m c2 c3 q2 q3 0 hf (CMP_k hu pv.1 (by have := pv.2.1.2; have := hu.2.2.2.2; omega) (Nat.le_refl _)) e (by omega) (by omega) (by omega) (by omega)) (fun w _ p1 => ?_)
        have wb2 : WSc ps lo x + WBc ps x m + 4 ≤ WSc ps lo (m + 1) := by
          unfold WSc
          rw [if_neg (show ¬ m + 1 ≤ lo by omega), show m + 1 - 1 = m by omega]
          by_cases hxl : x = lo
          · subst hxl
            rw [if_pos (Nat.le_refl _)]
            omega
          · rw [if_neg (by omega)]
            have := WB_2 hcs.1 (lo := lo) (m := x - 1) (lo2 := x) (hi := m) (by omega) (by omega) (by omega) (by omega)
            omega
        have p1' : PCQ v w lv (WBc ps x m) (m - x) hi q2 q3 (TYX v w lv x q2 q3 o False 1) := PC_w p1 (Int.le_refl _) (Nat.le_refl _) (by omega) (fun _ y => TY_mo y (Nat.le_refl _) (Nat.le_refl _) (fun z => absurd z (by decide)))
        have kp := p1.2.1
        have pw := PC_seq (Y := SGH u w lv lo q q3 o (s + 1) (HL aa2 oo2 pa pb ka kb) ∧ (aa2 ≠ none → ca = ((pa : Nat) : Int)) ∧ (oo2 ≠ none → cb = ((pb : Nat) : Int))) pv p1' (Nat.le_refl _) hx.2.1 (by omega) (fun gd o1 o2 y1 y2 => ⟨SGH_seq pv.1 p1.1 pv.2.1.1 kp.1 o2 y1.1 y2 hx.1, y1.2⟩)
        refine nx w ca ka cb kb pa pb p1.1.1 (PC_w pw ?_ (by clear wb2; omega) (Nat.le_refl _) (fun _ z => z)) ⟨by clear wb2; omega, by clear wb2; omega, by clear wb2; omega⟩ hr ⟨fun z => ?_, fun z => ?_, hk.2.2⟩
        · omega
        · have := hk.1 z
          omega
        · have := hk.2.1 z
          omega
      have n24 : A v 16 n ≠ 24 := by omega
      have n23 : A v 16 n ≠ 23 := by omega
      unfold hb_Cm_signs_82
      refine k_c (y := 24) rfl (A_r _ _ _) ⟨by decide, by decide⟩ (fun z => absurd z n24) (fun _ => ?_)
      refine k_c (y := 24) rfl (A_r _ _ _) ⟨by decide, by decide⟩ (fun z => absurd z n24) (fun _ => ?_)
      exact k_c (y := 23) rfl (A_r _ _ _) ⟨by decide, by decide⟩ (fun z => absurd z n23) (fun _ => un)
    · have h6 := pv.2.1
      have c6 := cv.1
      have nh : ∀ (y : Int) (w : MS), (y = 13 ∨ y = 14) → EMc v w [y, 0] → 1 ≤ s → PCQ u w lv (WSc ps lo x2 - 4 * ((s : Nat) : Int) - 2 * evc aa - 2 * evc oo + 2) (x2 - 1 - lo) hi q q3 ((SGH u w lv lo q q3 o (s - 1) ((szc v + 1, s - 1, F v 706) :: HL aa oo pa pb ka kb) ∧ F w 441 - 1 = ((szc v + 1 : Nat) : Int)) ∧ (aa ≠ none → ca = ((pa : Nat) : Int)) ∧ (oo ≠ none → cb = ((pb : Nat) : Int))) := fun y w hy e hs1 => by
        have pw := PC_seq (Y := (SGH u w lv lo q q3 o (s - 1) ((szc v + 1, s - 1, F v 706) :: HL aa oo pa pb ka kb) ∧ F w 441 - 1 = ((szc v + 1 : Nat) : Int)) ∧ (aa ≠ none → ca = ((pa : Nat) : Int)) ∧ (oo ≠ none → cb = ((pb : Nat) : Int))) pv (PC_em (hi := hi) (q := q3) cv e) (Nat.le_refl _) hx.2.1 (Nat.le_refl _) (fun gd o1 o2 y1 y2 => ⟨SGH_and pv.1 h6.1 e hy gd (by omega) hs1 y1.1, y1.2⟩)
        exact PC_w pw (by simp) (by omega) (Nat.le_refl _) (fun _ z => z)
      rcases hs with ⟨e16, e18, hs1, rfl, rfl, rfl, rfl⟩ | ⟨e16, e18, hs1, rfl, rfl, rfl, rfl, rfl⟩ | ⟨e16, e18, hs1, rfl, rfl, rfl, rfl⟩ | ⟨e16, e18, hs1, rfl, rfl, rfl, rfl, rfl⟩ | ⟨e16, e18, e18b, hs1, rfl, rfl, rfl⟩
      · rw [e16, e18]
        show OK _ (bnd (hm_Co_put N v 13) (fun u39 _ => bnd (hm_Co_hook N u39 0) (fun u42 r42 => hb_Cm_signs_198 N S (hg_Cm_signs N S M) u42 r42 (u42.1 706) (I cb) (I kb) (I ((n : Nat) : Int)))))
        refine put_1 (x := 13) c6 ⟨by decide, by decide⟩ (fun w1 e1 => hook_B (x := 0) c6.1 e1 ⟨by decide, by decide⟩ (fun w2 e2 => ?_))
        have e6 : F w2 706 = F v 706 := congrArg _ (e2.1.1 706 (by simp))
        have k2 := EMc.km cv e2
        have c2' := k2.2.1.1
        rw [I_F (k := 706), e6]
        refine nx w2 (F w2 441 - 1) (F v 706) cb kb (szc v + 1) pb k2.1 (PC_w (nh 13 w2 (Or.inl rfl) e2 hs1) (by simp only [evc]; omega) (Nat.le_refl _) (Nat.le_refl _) (fun _ z => ⟨z.1.1, fun _ => z.1.2, z.2.2⟩)) ⟨by omega, hx.2⟩ ⟨⟨by omega, by omega⟩, hr.2⟩ ⟨fun _ => by omega, fun z => by have := hk.2.1 z; omega, fun _ z => (hk.2.1 z).2⟩
      · rw [e16, e18]
        show OK _ (bnd (hm_Co_put N v 14) (fun u39 _ => bnd (hm_Co_hook N u39 0) (fun u42 r42 => hb_Cm_signs_198 N S (hg_Cm_signs N S M) u42 (I ca) (I ka) r42 (u42.1 706) (I ((n : Nat) : Int)))))
        refine put_1 (x := 14) c6 ⟨by decide, by decide⟩ (fun w1 e1 => hook_B (x := 0) c6.1 e1 ⟨by decide, by decide⟩ (fun w2 e2 => ?_))
        have e6 : F w2 706 = F v 706 := congrArg _ (e2.1.1 706 (by simp))
        have k2 := EMc.km cv e2
        have c2' := k2.2.1.1
        rw [I_F (k := 706), e6]
        refine nx w2 ca ka (F w2 441 - 1) (F v 706) pa (szc v + 1) k2.1 (PC_w (nh 14 w2 (Or.inr rfl) e2 hs1) (by simp only [evc]; omega) (Nat.le_refl _) (Nat.le_refl _) (fun _ z => ⟨z.1.1, fun z => absurd rfl z, fun _ => z.1.2⟩)) ⟨by omega, hx.2⟩ ⟨hr.1, ⟨by omega, by omega⟩⟩ ⟨fun z => absurd rfl z, fun _ => by omega, fun z => absurd rfl z⟩
      · rw [e16, e18]
        show OK _ (bnd (hm_Cm_forget N v (I ka)) (fun u16 _ => bnd (hm_Co_arrive N u16 (I ca)) (fun u18 _ => hb_Cm_signs_198 N S (hg_Cm_signs N S M) u18 (I ca) (I ka) (I cb) (I kb) (I ((n : Nat) : Int)))))
        have hka := hk.1 (by simp)
        refine close_B (p := pa) (s := s2) (Hk := HL none oo2 pa pb ka kb) (Z := oo2 ≠ none → cb = ((pb : Nat) : Int)) (o := o) (lo := lo) hN (PC_w pv (Int.le_refl _) (Nat.le_refl _) (Nat.le_refl _) (fun _ y => ⟨y.1, y.2.1 (by simp), y.2.2⟩)) cu hx.2.1 hs1 (by omega) hka.1 hka.2 hr.1 (fun w kw pw e6 => ?_)
        refine nx w ca ka cb kb pa pb kw (PC_w pw (by simp only [evc]; omega) (Nat.le_refl _) (Nat.le_refl _) (fun _ z => ⟨z.1, fun z => absurd rfl z, z.2⟩)) hx hr ⟨fun z => absurd rfl z, fun z => by have := hk.2.1 z; have := hk.2.2 (by simp) z; omega, fun z => absurd rfl z⟩
      · rw [e16, e18]
        show OK _ (bnd (hm_Cm_forget N v (I kb)) (fun u16 _ => bnd (hm_Co_arrive N u16 (I cb)) (fun u18 _ => hb_Cm_signs_198 N S (hg_Cm_signs N S M) u18 (I ca) (I ka) (I cb) (I kb) (I ((n : Nat) : Int)))))
        have hka := hk.2.1 (by simp)
        refine close_B (p := pb) (s := s2) (Hk := []) (Z := True) (o := o) (lo := lo) hN (PC_w pv (Int.le_refl _) (Nat.le_refl _) (Nat.le_refl _) (fun _ y => ⟨y.1, y.2.2 (by simp), trivial⟩)) cu hx.2.1 hs1 (by omega) hka.1 hka.2 hr.2 (fun w kw pw e6 => ?_)
        refine nx w ca ka cb kb pa pb kw (PC_w pw (by simp only [evc]; omega) (Nat.le_refl _) (Nat.le_refl _) (fun _ z => ⟨z.1, fun z => absurd rfl z, fun z => absurd rfl z⟩)) hx hr ⟨fun z => absurd rfl z, fun z => absurd rfl z, fun z => absurd rfl z⟩
      · rw [e16]
        have r18 := A_r v 18 n
        have jn : OK (fun w _ => PXS u w lv ps lo hi q r o False 1) (bnd (hm_Cm_joining N v (I (A v 18 n)) (v.2.2.1 17 n)) (fun u11 _ => hb_Cm_signs_198 N S (hg_Cm_signs N S M) u11 (I ca) (I ka) (I cb) (I kb) (I ((n : Nat) : Int)))) := by
          rw [I_A (k := 17), e17, ok_bnd]
          refine ok_mono (joining_ok (N := N) (hi := hi) (q := q3) cv r18 ⟨Nat.zero_le _, by omega⟩) (fun w _ pj => ?_)
          have kj := pj.2.1
          have pw := PC_seq (Y := SGH u w lv lo q q3 o (s - 1) (HL aa2 oo2 pa pb ka kb) ∧ (aa2 ≠ none → ca = ((pa : Nat) : Int)) ∧ (oo2 ≠ none → cb = ((pb : Nat) : Int))) pv pj (Nat.le_refl _) hx.2.1 (Nat.le_refl _) (fun gd o1 o2 y1 y2 => ⟨?_, y1.2⟩)
          · exact nx w ca ka cb kb pa pb pj.1.1 (PC_w pw (by omega) (by omega) (Nat.le_refl _) (fun _ z => z)) ⟨by omega, hx.2⟩ hr ⟨fun z => by have := hk.1 z; omega, fun z => by have := hk.2.1 z; omega, hk.2.2⟩
          · have l15 := gd.2.2.2.1
            refine ⟨fun e he => ?_, y1.1.2.1, fun h m L g x0 p => ?_⟩
            · obtain ⟨a1, a2, a3⟩ := y1.1.1 e he
              have a3' : e.1 < (F v 441).toNat := a3
              exact ⟨by rw [o2.1 e.1 (by omega)]; exact a1, a2, by rw [y2.1]; omega⟩
            · have p1 := PRE_1 p pj.1
              obtain ⟨n1, i1⟩ := y1.1.2.2 h m L g x0 p1
              have pb := PRE_b cv pv.1 h6.1 p1
              refine ⟨fun hg => y2.2.1.trans (n1 hg), ?_⟩
              have j1 := SG_kw cv i1 pj.1.1 o2 (Nat.le_refl _) (Or.inl (Nat.le_refl _))
              have j2 := SG_bin (u := w) (a := szc v) (q := q3) (z := h) (h := h + s) (m := m + knc u v) (L := L) (g := g) (x := x0) (by omega) (by omega) pb.1 y2.2.2 (by omega)
              have j := SG_seq j1 j2 (by omega) (fun hg => by
                have := n1 hg
                show m + (F v 706 - F u 706).toNat = m
                omega)
              rw [List.append_nil, ← y2.1, show knc u v = knc u w by show (F v 706 - F u 706).toNat = _; rw [← y2.2.1], show h + s - 1 = h + (s - 1) by omega] at j
              exact j
        refine k_c (x := 23) (y := 24) rfl ⟨by decide, by decide⟩ ⟨by decide, by decide⟩ (fun z => absurd z (by decide)) (fun _ => ?_)
        unfold hb_Cm_signs_82
        refine k_c (x := 23) (y := 24) rfl ⟨by decide, by decide⟩ ⟨by decide, by decide⟩ (fun z => absurd z (by decide)) (fun _ => ?_)
        refine k_c (x := 23) (y := 23) rfl ⟨by decide, by decide⟩ ⟨by decide, by decide⟩ (fun _ => ?_) (fun z => absurd rfl z)
        refine k_c (y := 6) rfl r18 ⟨by decide, by decide⟩ (fun z => absurd z e18) (fun _ => ?_)
        refine k_c (y := 16) rfl r18 ⟨by decide, by decide⟩ (fun z => absurd z e18b) (fun _ => ?_)
        rw [i1, ck_t, tnI (n := n) rfl (by omega)]
        exact jn
theorem signsC_ok (hE : ExS N S o 1) (hN : 24002 ≤ N) {S2 : SF_Cm_fun} (h2 : S2.2.2.2.2.2.2.2.1 = hm_Cm_signs N S) : SiS N S2 o := by
  intro f j u lv c Q ps m lo hi a b q r hf hu h hlo hb hh hQ
  rw [h2]
  unfold hm_Cm_signs hb_Cm_signs_0
  have hd := SF_hd (XP_bd f o 1) h
  refine signsX_ok hE hu hf hN hh hb hQ hlo j N m lo a q 0 none none 0 0 0 0 0 0 u h (PC_w (PC_rf (hi := hi) (q := q) hu.1) ?_ (by omega) (Nat.le_refl _) (fun _ _ => ⟨SGH_0 hu.1, fun z => absurd rfl z, fun z => absurd rfl z⟩)) ⟨by omega, Nat.le_refl _, Nat.le_refl _⟩ ⟨⟨by decide, by decide⟩, ⟨by decide, by decide⟩⟩ ⟨fun z => absurd rfl z, fun z => absurd rfl z, fun z => absurd rfl z⟩ (by omega)
  simp only [evc]
  unfold WSc
  rw [if_pos (Nat.le_refl _)]
  omega
end
