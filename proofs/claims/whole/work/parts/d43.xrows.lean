/-! expressions: rows of E's, both: parts of TUPLES and LISTS, ARGUMENTS -/
set_option maxRecDepth 100000
section
variable {α β : Type} {m0 w0 m w m2 w2 m3 w3 v u mS wS : MS} {K nm Nk W W2 : Nat → Nat} {N T D d o a a0 b c cm cm0 cm2 cm3 q q0 r s lo lo0 mid hi i j f f2 n k kk p σ tk x xa xb : Nat} {Q Q0 Q2 Q3 Q4 : Nat → Nat} {sc sc0 sc2 sc3 t : SCT} {e : List Nat × List Nat × Nat} {g lst l2 : Bool} {L L1 L2 : List Nat} {fof cvr : Int → Int → Int} {C : Nat → Int} {P R : Nat → Nat → Int} {J : Nat → Int64} {H O : List Nat} {y : Option (Nat × Nat × Nat)} {z : Unit} {rt v1 v2 v3 v5 : Int32} {fc : MS → Unit → Option (MS × α)} {RR : MS → α → MS → Int32 → Prop} {RU : MS → α → MS → β → Prop} {A' : Option (MS × α)}
theorem NEC_k : NEC 26 ∧ NEC 27 ∧ NEC 28 ∧ NEC 21 ∧ NEC 23 ∧ NEC 25 ∧ NEC 29 ∧ NEC 38 ∧ NEC 15 ∧ NEC 11 ∧ NEC 5 := by
  unfold NEC
  decide
theorem row_0 {S : SF_Cm_fun} {M : Nat} {B : Option (MS × β)} (h : PP RU (fc m ()) B) : PP RU (bnd (jg_Cm_row N S M m (I ((0 : Nat) : Int))) fc) B := by
  cases M with
  | zero => exact pp_nl
  | succ M =>
    show PP RU (bnd (jb_Cm_row_2 N S (jg_Cm_row N S M) m (I ((0 : Nat) : Int))) fc) B
    unfold jb_Cm_row_2
    rw [show decide (I ((0 : Nat) : Int) = (0 : Int32)) = true from rfl, br_t, bnd_s]
    exact h
theorem row_s {S : SF_Cm_fun} {M : Nat} {B : Option (MS × β)} (hn : 1 ≤ n ∧ n ≤ 8015) (h : ∀ M, PP RU (bnd (S.2.2.2.2.2.2.2.2.2.2.1 m (I (n : Nat)) (lsI false)) (fun u1 _ => bnd (jg_Cm_row N S M u1 (u1.2.2.1 21 n)) fc)) B) : PP RU (bnd (jg_Cm_row N S M m (I (n : Nat))) fc) B := by
  cases M with
  | zero => exact pp_nl
  | succ M =>
    show PP RU (bnd (jb_Cm_row_2 N S (jg_Cm_row N S M) m (I (n : Nat))) fc) B
    unfold jb_Cm_row_2
    rw [decide_eq_false (fun z => by
      have := (I_eq (x := ((n : Nat) : Int)) (y := 0) (by omega) (by omega) (by decide) (by decide)).mp z
      omega), br_f, bnd_as2]
    have h := h M
    intro m9 z9 w9 r9 e1 e2
    refine h m9 z9 w9 r9 ?_ e2
    rw [← e1]
    refine congrArg _ (funext (fun u1 => funext (fun _ => ?_)))
    rw [bnd_ck, i_nt2 (show n ≤ 100000 by omega), i_inb (show n < 8016 by omega) (by decide), ck_t]
/-- behind a part: one more, or none -/
theorem r_92 {S : SG_M_behind} {G : MS → Int32 → Int32 → Int32 → Int32 → Int32 → Int32 → Option (MS × Int32)} (hw : WP w K T p) (h0 : w.1 67 = 0) (h1 : K p = 26 → PP RR A' (G (adv w p) v1 v2 v3 (I ((j + 1 : Nat) : Int)) v5 1)) (h2 : K p ≠ 26 → PP RR A' (G w v1 v2 v3 (I ((j + 1 : Nat) : Int)) v5 0)) : PP RR A' (br (decide (I (j : Nat) + 1 = (8 : Int32))) (bnd (fm_M_isSign N w 6) (fun u9 r9 => br (decide (r9 = 0)) (kb_M_row_92 N S G u9 v1 v2 v3 (I (j : Nat) + 1) v5) (bnd (km_M_wrong N u9 2) (fun u10 _ => kb_M_row_92 N S G u10 v1 v2 v3 (I (j : Nat) + 1) v5)))) (kb_M_row_92 N S G w v1 v2 v3 (I (j : Nat) + 1) v5)) := by
  have e92 : PP RR A' (kb_M_row_92 N S G w v1 v2 v3 (I (j : Nat) + 1) v5) := by
    unfold kb_M_row_92
    rw [tkS_e (k := 26) (s := 6) hw h0 (by decide) rfl, i_suc]
    by_cases z : K p = 26
    · rw [if_pos z]; exact h1 z
    · rw [if_neg z]; exact h2 z
  refine r_br (fun _ => ?_) (fun _ => e92)
  rw [isS_e (k := 26) (s := 6) hw (by decide) rfl, bnd_s]
  by_cases z : K p = 26
  · rw [if_pos z, show decide ((1 : Int32) = 0) = false from rfl, br_f]
    exact pp_nr
  · rw [if_neg z, show decide ((0 : Int32) = 0) = true from rfl, br_t]
    exact e92
theorem row_x (c : CTZ m0 w0 K T nm Nk) (IH : HXE N m0 w0 K T nm Nk fof cvr f) (hxb : xb ≤ 8015) (hr4 : r ≤ 400) (hcl : (NEC (K hi) ∧ hi ≤ T) ∧ K hi ≠ 26) (htot : tot sc0 + (hi - lo0) ≤ 4000 ∧ sc0.length ≤ o + 1)
    (hend : ∀ M2 m2 w2 b cm2 Q2 sc2, XTR m0 w0 K T nm Nk fof cvr lst g [] lo0 hi a0 b cm0 cm2 q0 r Q0 Q2 sc0 sc2 mS wS m2 w2 → PP RR (fc m2 ()) (kg_M_row N (krc_M_behind N d) M2 w2 v1 v2 v3 (I (kk : Nat)) v5 0)) :
    ∀ (k n lo xa q M1 M2 j : Nat) (m w : MS) (a cm : Nat) (Q : Nat → Nat) (sc : SCT), RWcK m0 1 26 (XPcK m0 f o 3) k n lo hi xa xb q r → XTR m0 w0 K T nm Nk fof cvr lst g [] lo0 lo a0 a cm0 cm q0 q Q0 Q sc0 sc mS wS m w → j + k = kk → PP RR (bnd (jg_Cm_row N (jrc_Cm_fun N D) M1 m (I (n : Nat))) fc) (kg_M_row N (krc_M_behind N d) M2 w v1 v2 v3 (I (j : Nat)) v5 1)
  | 0, _, _, _, _, _, _, _, _, _, _, _, _, _, h, _, _ => h.elim
  | k + 1, n, lo, xa, q, M1, 0, j, m, w, a, cm, Q, sc, _, _, _ => pp_nr
  | k + 1, n, lo, xa, q, M1, M2 + 1, j, m, w, a, cm, Q, sc, h, ht, hj => by
    obtain ⟨mid, c1, s1, hE, h⟩ := h
    have hd := xp_hd hE
    have hdm : mid ≤ hi ∧ c1 ≤ xb ∧ s1 ≤ r := by
      rcases h with ⟨-, -, rfl, rfl, rfl⟩ | ⟨-, n2, -, h3⟩
      · exact ⟨Nat.le_refl _, Nat.le_refl _, Nat.le_refl _⟩
      · have := (RW_hdK (XP_bdK _ _ _) h3).1
        unfold HDc at this
        omega
    have hcm : NEC (K mid) ∧ mid ≤ T := by
      rcases h with ⟨-, -, rfl, -⟩ | ⟨⟨-, h2⟩, -⟩
      · exact hcl.1
      · have := hcl.1.2
        exact ⟨by rw [kA c (by omega) (h2 rfl)]; exact NEC_k.1, by omega⟩
    refine row_s ⟨by omega, by omega⟩ (fun M => ?_)
    show PP RR _ (kb_M_row_50 N (krc_M_behind N d) (kg_M_row N (krc_M_behind N d) M2) w v1 v2 v3 (I (j : Nat)) v5 1)
    unfold kb_M_row_50
    have h67 := ht.2.2.1.1.1.2.2.1
    rw [show decide ((1 : Int32) = 0) = false from rfl, br_f, decide_eq_true h67, br_t]
    have t1 := ht.2.2.2.1
    have l1 := ht.1.1
    have ttl := XTR_len ht
    refine pp_bb (pp_mo (IH D d o n lo mid xa c1 q s1 m w a cm Q sc g false hE (by omega) (by omega) hcm ht.2.1 ht.2.2.1.1 ht.2.2.1.2 (by omega)) (fun m2 z2 w2 rt hz => ?_))
    obtain ⟨b2, cm2, Q2, sc2, ht2⟩ := XZ_tr hz ht
    have hR2 := ht2.2.2.1.1
    have hw2 := XRS_wp c hR2
    refine r_92 hw2 hR2.1.2.2.1 (fun z => ?_) (fun z => ?_)
    · rcases h with ⟨rfl, h21, rfl, rfl, rfl⟩ | ⟨⟨h1, h2⟩, n2, h21, h3⟩
      · exact absurd z hcl.2
      · rw [tre (XCS_fr ht2.2.1) (by decide) h21]
        have hl : mid < T := c.2.1.1.lt hR2.1.2.1.2 (by omega) (by omega)
        exact row_x c IH hxb hr4 hcl htot hend k n2 (mid + 1) c1 s1 M M2 (j + 1) m2 (adv w2 mid) b2 cm2 Q2 sc2 h3 (XTR_ad ht2 hl (by omega)) (by omega)
    · rcases h with ⟨rfl, h21, rfl, rfl, rfl⟩ | ⟨⟨h1, h2⟩, n2, h21, h3⟩
      · rw [tre (XCS_fr ht2.2.1) (by decide) (v := ((0 : Nat) : Int)) h21]
        refine row_0 ?_
        rw [show j + 1 = kk by omega]
        exact hend M2 m2 w2 b2 cm2 Q2 sc2 ht2
      · exact absurd (kA c hR2.1.2.1.2 (h2 rfl)) z
/-- behind an ARGUMENT -/
theorem r_63 {S : SG_M_behind} {G : MS → Int32 → Int32 → Option (MS × Unit)} {RU : MS → α → MS → β → Prop} {F : MS → Unit → Option (MS × β)} (hw : WP w K T p) (h0 : w.1 67 = 0) (h1 : K p = 26 → PP RU A' (bnd (G (adv w p) (I ((j + 1 : Nat) : Int)) 1) F)) (h2 : K p ≠ 26 → PP RU A' (bnd (G w (I ((j + 1 : Nat) : Int)) 0) F)) : PP RU A' (bnd (br (decide (I (j : Nat) + 1 = (6 : Int32))) (bnd (fm_M_isSign N w 6) (fun u9 r9 => br (decide (r9 = 0)) (kb_M_arguments_63 N S G u9 (I (j : Nat) + 1)) (bnd (km_M_wrong N u9 2) (fun u10 _ => kb_M_arguments_63 N S G u10 (I (j : Nat) + 1))))) (kb_M_arguments_63 N S G w (I (j : Nat) + 1))) F) := by
  have e92 : PP RU A' (bnd (kb_M_arguments_63 N S G w (I (j : Nat) + 1)) F) := by
    unfold kb_M_arguments_63
    rw [tkS_e (k := 26) (s := 6) hw h0 (by decide) rfl, i_suc]
    by_cases z : K p = 26
    · rw [if_pos z]; exact h1 z
    · rw [if_neg z]; exact h2 z
  rw [bnd_br]
  refine r_br (fun _ => ?_) (fun _ => e92)
  rw [isS_e (k := 26) (s := 6) hw (by decide) rfl, bnd_s]
  by_cases z : K p = 26
  · rw [if_pos z, show decide ((1 : Int32) = 0) = false from rfl, br_f]
    exact pp_nr
  · rw [if_neg z, show decide ((0 : Int32) = 0) = true from rfl, br_t]
    exact e92
theorem arg_x {F : MS → Unit → Option (MS × β)} (c : CTZ m0 w0 K T nm Nk) (IH : HXE N m0 w0 K T nm Nk fof cvr f) (hxb : xb ≤ 8015) (hr4 : r ≤ 400) (hcl : (NEC (K hi) ∧ hi ≤ T) ∧ K hi ≠ 26) (htot : tot sc0 + (hi - lo0) ≤ 4000 ∧ sc0.length ≤ o + 1)
    (hend : ∀ M2 m2 w2 b cm2 Q2 sc2, XTR m0 w0 K T nm Nk fof cvr lst g [] lo0 hi a0 b cm0 cm2 q0 r Q0 Q2 sc0 sc2 mS wS m2 w2 → PP RU (fc m2 ()) (bnd (kg_M_arguments N (krc_M_behind N d) M2 w2 (I (kk : Nat)) 0) F)) :
    ∀ (k n lo xa q M1 M2 j : Nat) (m w : MS) (a cm : Nat) (Q : Nat → Nat) (sc : SCT), RWcK m0 1 26 (XPcK m0 f o 3) k n lo hi xa xb q r → XTR m0 w0 K T nm Nk fof cvr lst g [] lo0 lo a0 a cm0 cm q0 q Q0 Q sc0 sc mS wS m w → j + k = kk → PP RU (bnd (jg_Cm_row N (jrc_Cm_fun N D) M1 m (I (n : Nat))) fc) (bnd (kg_M_arguments N (krc_M_behind N d) M2 w (I (j : Nat)) 1) F)
  | 0, _, _, _, _, _, _, _, _, _, _, _, _, _, h, _, _ => h.elim
  | k + 1, n, lo, xa, q, M1, 0, j, m, w, a, cm, Q, sc, _, _, _ => pp_nr
  | k + 1, n, lo, xa, q, M1, M2 + 1, j, m, w, a, cm, Q, sc, h, ht, hj => by
    obtain ⟨mid, c1, s1, hE, h⟩ := h
    have hd := xp_hd hE
    have hdm : mid ≤ hi ∧ c1 ≤ xb ∧ s1 ≤ r := by
      rcases h with ⟨-, -, rfl, rfl, rfl⟩ | ⟨-, n2, -, h3⟩
      · exact ⟨Nat.le_refl _, Nat.le_refl _, Nat.le_refl _⟩
      · have := (RW_hdK (XP_bdK _ _ _) h3).1
        unfold HDc at this
        omega
    have hcm : NEC (K mid) ∧ mid ≤ T := by
      rcases h with ⟨-, -, rfl, -⟩ | ⟨⟨-, h2⟩, -⟩
      · exact hcl.1
      · have := hcl.1.2
        exact ⟨by rw [kA c (by omega) (h2 rfl)]; exact NEC_k.1, by omega⟩
    refine row_s ⟨by omega, by omega⟩ (fun M => ?_)
    show PP RU _ (bnd (kb_M_arguments_24 N (krc_M_behind N d) (kg_M_arguments N (krc_M_behind N d) M2) w (I (j : Nat)) 1) F)
    unfold kb_M_arguments_24
    have h67 := ht.2.2.1.1.1.2.2.1
    rw [show decide ((1 : Int32) = 0) = false from rfl, br_f, decide_eq_true h67, br_t, bnd_as2]
    have t1 := ht.2.2.2.1
    have l1 := ht.1.1
    have ttl := XTR_len ht
    refine pp_bb (pp_mo (IH D d o n lo mid xa c1 q s1 m w a cm Q sc g false hE (by omega) (by omega) hcm ht.2.1 ht.2.2.1.1 ht.2.2.1.2 (by omega)) (fun m2 z2 w2 rt hz => ?_))
    obtain ⟨b2, cm2, Q2, sc2, ht2⟩ := XZ_tr hz ht
    have hR2 := ht2.2.2.1.1
    have hw2 := XRS_wp c hR2
    refine r_63 hw2 hR2.1.2.2.1 (fun z => ?_) (fun z => ?_)
    · rcases h with ⟨rfl, h21, rfl, rfl, rfl⟩ | ⟨⟨h1, h2⟩, n2, h21, h3⟩
      · exact absurd z hcl.2
      · rw [tre (XCS_fr ht2.2.1) (by decide) h21]
        have hl : mid < T := c.2.1.1.lt hR2.1.2.1.2 (by omega) (by omega)
        exact arg_x c IH hxb hr4 hcl htot hend k n2 (mid + 1) c1 s1 M M2 (j + 1) m2 (adv w2 mid) b2 cm2 Q2 sc2 h3 (XTR_ad ht2 hl (by omega)) (by omega)
    · rcases h with ⟨rfl, h21, rfl, rfl, rfl⟩ | ⟨⟨h1, h2⟩, n2, h21, h3⟩
      · rw [tre (XCS_fr ht2.2.1) (by decide) (v := ((0 : Nat) : Int)) h21]
        refine row_0 ?_
        rw [show j + 1 = kk by omega]
        exact hend M2 m2 w2 b2 cm2 Q2 sc2 ht2
      · exact absurd (kA c hR2.1.2.1.2 (h2 rfl)) z
end
