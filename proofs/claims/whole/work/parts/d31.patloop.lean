/-! patterns: a row to its end, both -/
set_option maxRecDepth 100000
section
variable {β : Type} {m0 w0 m w mS wS m2 w2 m3 w3 : MS} {K nm Nk : Nat → Nat} {T N n lo lo0 mid hi f s a a0 cm cm0 b pi pj rt j kk first last p d D xb r : Nat} {sc sc0 sc2 : SCT} {own : Bool} {v1 v2 v3 v5 : Int32} {CL : Nat → MS → Int32 → Option (MS × Unit)} {R : MS → Unit → MS → Int32 → Prop}
theorem HDo_ext {W : Nat → Nat} (h : HDw own nm Nk K W lo0 p sc0 sc) (h1 : lo0 ≤ p) (hk : K p ≠ 3) : HDw own nm Nk K W lo0 (p + 1) sc0 sc := HDw_tr h1 (by omega) h (HDw_gap (fun j a b => by rw [show j = p by omega]; exact hk))
theorem wup_ex1 {g : Nat → Int32} {W : Nat → Nat} (h1 : lo0 ≤ p) (hk : K p ≠ 3) : wup g K W lo0 (p + 1) = wup g K W lo0 p := by
  rw [← wup_tr (q := p) h1 (by omega), wup_0 (p := p) (fun j a b => by rw [show j = p by omega]; exact hk)]
theorem PRS_ad (h : PRd w0 T w p pi sc) (hl : p < T) : PRd w0 T (adv w p) (p + 1) pi sc := PRS_k h (fun k h1 h2 h3 => upI_ne h3) (fun _ _ => rfl) upI_at hl (by unfold adv; rw [upI_ne (by decide)]; exact h.2.2.2.2.2.1) h.2.2.2.2.2.2
/-- one token on -/
theorem RWA_ad (h : RWA m0 w0 K T nm Nk f s lo0 own a0 cm0 rt sc0 mS wS j first last m w p a cm pi sc) (hl : p < T) (hk : K p ≠ 3) : RWA m0 w0 K T nm Nk f s lo0 own a0 cm0 rt sc0 mS wS j first last m (adv w p) (p + 1) a cm pi sc := by
  obtain ⟨r1, r2, r3, r4, ⟨W, r5, r6⟩, r7, r8, r9, r10⟩ := h
  exact ⟨r1, PRS_ad r2 hl, ⟨by omega, r3.2⟩, ⟨r4.1, by have := r4.2; omega⟩, ⟨W, HDo_ext r5 r3.1 hk, by rw [wup_ex1 r3.1 hk]; exact r6⟩, r7, RFP_I r8 (Or.inr (Or.inr rfl)), r9, r10⟩
theorem rowd_lp (c : CTZ m0 w0 K T nm Nk) (IH : HPT N m0 w0 K T nm Nk f) (hC0 : ∀ m x, CL 0 m x = none) (hCL : ∀ M m n, 1 ≤ n → n ≤ 8015 → CL (M + 1) m (I ((n : Nat) : Int)) = stp s N (jrc_Cm_listPattern N D) m (I (n : Nat)) (fun u _ => ck (inb (I (n : Nat)) 8016) (CL M u (u.2.2.1 21 n)))) (hs : s ≤ 1) (hrt : rt < 5000) (hxb : xb ≤ 8015) (htot : tot sc0 + (hi - lo0) ≤ 4000) (ho : decide (v1 = 0) = !own) (hK : hi ≤ T → K hi ≠ 26) (hkk : kk ≤ 8)
    (hend : ∀ M1 M2 m2 w2 b cm2 pj sc2 f2 l2, RWA m0 w0 K T nm Nk f s lo0 own a0 cm0 rt sc0 mS wS kk f2 l2 m2 w2 hi b cm2 pj sc2 → PP R (CL M1 m2 (I 0)) (kb_M_rowPattern_151 N (krc_M_rowPattern N d) (kg_M_rowPattern N (krc_M_rowPattern N d) M2) w2 v1 v2 v3 (I (rt : Nat)) (I (l2 : Nat)) (I (kk : Nat)))) :
    ∀ (k n lo xa q M1 M2 j first last : Nat) (m w : MS) (a cm pi : Nat) (sc : SCT) (v5 : Int32), RWcK m0 1 26 (PAcK m0 f) k n lo hi xa xb q r → RWA m0 w0 K T nm Nk f s lo0 own a0 cm0 rt sc0 mS wS j first last m w lo a cm pi sc → ((j = 0 ∧ v5 = -1) ∨ (1 ≤ j ∧ v5 = I (last : Nat))) → j + k = kk → PP R (CL M1 m (I (n : Nat))) (kg_M_rowPattern N (krc_M_rowPattern N d) M2 w v1 v2 v3 (I (rt : Nat)) v5 (I (j : Nat)) 1)
  | 0, _, _, _, _, _, _, _, _, _, _, _, _, _, _, _, _, h, _, _, _ => h.elim
  | k + 1, n, lo, xa, q, M1, M2, j, first, last, m, w, a, cm, pi, sc, v5, h, ra, h5, hjk => by
    obtain ⟨mid, c1, s1, e, h⟩ := h
    have hd := PA_bdK _ _ _ _ _ _ _ _ e
    unfold HDc at hd
    have hc : c1 ≤ xb ∧ mid ≤ hi := by
      rcases h with ⟨-, -, h1, h2, -⟩ | ⟨-, n2, -, h3⟩
      · omega
      · have := (RW_hdK (PA_bdK _) h3).1
        unfold HDc at this
        omega
    have t4 := c.2.1.1.1
    cases M1 with
    | zero => rw [hC0]; exact pp_nl
    | succ M1 =>
      cases M2 with
      | zero => exact pp_nr
      | succ M2 =>
        rw [hCL M1 m n (by omega) (by omega)]
        show PP R _ (kb_M_rowPattern_66 N (krc_M_rowPattern N d) (kg_M_rowPattern N (krc_M_rowPattern N d) M2) w v1 v2 v3 (I (rt : Nat)) v5 (I (j : Nat)) 1)
        unfold kb_M_rowPattern_66
        rw [show decide ((1 : Int32) = 0) = false from rfl, br_f, decide_eq_true ra.2.1.2.2.1, br_t]
        refine row_1 (G := fun w12 r10 => kb_M_rowPattern_112 N (krc_M_rowPattern N d) (kg_M_rowPattern N (krc_M_rowPattern N d) M2) w12 v1 v2 v3 (I (rt : Nat)) (I (j : Nat)) r10) IH ra hs hrt e (by omega) (by omega) ho h5 (fun m2 w2 b cm2 pj sc2 f2 l2 ra2 => ?_)
        have hw2 := PRS_w c ra2.2.1
        have h67 := ra2.2.1.2.2.1
        refine l_ck (fun _ => ?_)
        -- behind the sign that follows
        have e140 : PP R (CL M1 m2 (m2.2.2.1 21 n)) (kb_M_rowPattern_140 N (krc_M_rowPattern N d) (kg_M_rowPattern N (krc_M_rowPattern N d) M2) w2 v1 v2 v3 (I (rt : Nat)) (I (l2 : Nat)) (I ((j + 1 : Nat) : Int))) := by
          unfold kb_M_rowPattern_140
          rw [tkS_e (k := 26) (s := 6) hw2 h67 (by decide) rfl]
          rcases h with ⟨h1, h2, h3, h4, h6⟩ | ⟨⟨h1, hsep⟩, n2, h2, h3⟩
          · subst h3
            rw [if_neg (hK ra2.2.1.2.1.2), bnd_s, tre ra2.1.1 (by decide) h2]
            cases M2 with
            | zero => exact pp_nr
            | succ M2 =>
              show PP R _ (kb_M_rowPattern_66 N (krc_M_rowPattern N d) (kg_M_rowPattern N (krc_M_rowPattern N d) M2) w2 v1 v2 v3 (I (rt : Nat)) (I (l2 : Nat)) (I ((j + 1 : Nat) : Int)) 0)
              unfold kb_M_rowPattern_66
              rw [show decide ((0 : Int32) = 0) = true from rfl, br_t]
              have ej : j + 1 = kk := by omega
              rw [ej] at ra2 ⊢
              exact hend M1 M2 m2 w2 b cm2 pj sc2 f2 l2 ra2
          · have k26 : K mid = 26 := by
              have z := hsep rfl
              have z2 : A m0 6 mid = ((K mid : Nat) : Int) := by
                show (m0.2.2.1 6 mid).toInt = _
                rw [c.1.2 mid ra2.2.1.2.1.2]
                have := c.1.1.k46 ra2.2.1.2.1.2
                exact I_ti (by omega) (by omega)
              rw [z2] at z
              omega
            have hl : mid < T := c.2.1.1.lt ra2.2.1.2.1.2 (by omega) (by omega)
            rw [if_pos k26, bnd_s, tre ra2.1.1 (by decide) h2]
            exact rowd_lp c IH hC0 hCL hs hrt hxb htot ho hK hkk hend k n2 (mid + 1) c1 s1 M1 M2 (j + 1) f2 l2 m2 (adv w2 mid) b cm2 pj sc2 (I (l2 : Nat)) h3 (RWA_ad ra2 hl (by omega)) (Or.inr ⟨by omega, rfl⟩) (by omega)
        show PP R (CL M1 m2 (m2.2.2.1 21 n)) (kb_M_rowPattern_112 N (krc_M_rowPattern N d) (kg_M_rowPattern N (krc_M_rowPattern N d) M2) w2 v1 v2 v3 (I (rt : Nat)) (I (j : Nat)) (I (l2 : Nat)))
        unfold kb_M_rowPattern_112
        rw [i_suc]
        refine r_br (fun _ => ?_) (fun _ => e140)
        rw [isS_e (k := 26) (s := 6) hw2 (by decide) rfl, bnd_s]
        by_cases z : K mid = 26
        · rw [if_pos z, show decide ((1 : Int32) = 0) = false from rfl, br_f]
          exact pp_nr
        · rw [if_neg z, show decide ((0 : Int32) = 0) = true from rfl, br_t]
          exact e140
end
