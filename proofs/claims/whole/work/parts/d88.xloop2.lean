/-! parts, both: all of them; the end of CASE and IF -/
set_option maxRecDepth 100000
section
variable {α β : Type} {m0 w0 m w m2 w2 m3 w3 v u w1 mS wS V Z : MS} {K nm Nk W W2 : Nat → Nat} {N T D d o a aP a0 b b' b0 c cm cm0 cm2 cm3 q q0 r s lo lo0 mid hi hiA i j f f2 n k kk kd p p2 σ tk x xa xb xc xd gx kg kb mb nd fr M m1 lv y kf : Nat} {ndr : Nat → Int32} {Q Q0 Q1 Q2 Q3 Q4 : Nat → Nat} {sc sc0 sc2 sc3 t t0 t2 : SCT} {e e0 e2 : List Nat × List Nat × Nat} {g g2 lst l2 : Bool} {L L1 L2 Lr S hs fs : List Nat} {fst last : Option Nat} {l : List Int32} {idc fof cvr : Int → Int → Int} {z : Unit} {rt v1 v2 v3 v4 v5 v8 x1 x2 x3 x4 t4 t5 xw y20 pw kn : Int32} {fc : MS → Int32 → Option (MS × α)} {G : MS → Int32 → Int32 → Int32 → Int32 → Int32 → Option (MS × Int32)}
/-- behind all parts -/
def PLZs (m0 w0 : MS) (K : Nat → Nat) (T : Nat) (nm Nk : Nat → Nat) (fof cvr : Int → Int → Int) (lst : Bool) (kd σ nd : Nat) (ndr : Nat → Int32) (lo0 a0 aP cm0 q0 : Nat) (Q0 Q1 : Nat → Nat) (sc0 : SCT) (mS wS : MS) (hi r : Nat) (m9 : MS) (v9 : Int32) (w9 : MS) (r9 : Int32) : Prop := ∃ (a2 cm9 : Nat) (Q9 : Nat → Nat) (sc9 : SCT) (L9 hs9 : List Nat) (k1 kl : Nat), r9 = I (k1 : Nat) ∧ (k1 ≤ 24000 ∧ Q1 46 ≤ k1) ∧ PTVs m0 w0 K T nm Nk fof cvr lst kd σ nd ndr lo0 a0 aP cm0 q0 Q0 Q1 sc0 mS wS L9 hs9 (some k1) (some kl) hi a2 cm9 r Q9 sc9 m9 w9 v9
theorem RW_xb {E : Nat → Nat → Nat → Nat → Nat → Nat → Nat → Prop} (hb : BdE E) {k n lo hi a b q r : Nat} (h : RWcK m0 1 27 E k n lo hi a b q r) : HDc n lo hi a b q r := (RW_hdK hb h).1
theorem PE_bE : BdE (PEc m0 f o kd) := fun _ _ _ _ _ _ _ h => PE_bd h
theorem pt_no5 {A' : Option (MS × α)} {RR : MS → α → MS → Int32 → Prop} : PP RR A' (kb_M_parts0_105 N (krc_M_behind N 0) G w x1 x2 x3 x4 v1 v2 40 v3 v4) := by
  unfold kb_M_parts0_105
  exact r_ck (fun _ => r_ck (fun _ => r_lt (r_br (fun _ => pp_nr) (fun _ => pp_nr))))
theorem pt_no4 {A' : Option (MS × α)} {RR : MS → α → MS → Int32 → Prop} : PP RR A' (kb_M_parts0_74 N (krc_M_behind N 0) G w x1 x2 x3 x4 v1 41 v3 v4) := by
  unfold kb_M_parts0_74
  exact r_ck (fun _ => r_ck (fun _ => r_lt (r_ck (fun _ => r_lt (r_br (fun _ => r_bnd (fun _ _ _ => pt_no5)) (fun _ => pt_no5))))))
theorem pt_non {A' : Option (MS × α)} {RR : MS → α → MS → Int32 → Prop} : PP RR A' (kb_M_parts0_19 N (krc_M_behind N 0) G w x1 x2 x3 x4 1) := by
  unfold kb_M_parts0_19
  rw [show decide ((1 : Int32) = 0) = false from rfl, br_f]
  exact r_lt (r_ck (fun _ => r_lt (r_ck (fun _ => r_lt (r_br (fun _ => pt_no4) (fun _ => pt_no4))))))
/-- all parts -/
theorem pt_lp (c : CTZ m0 w0 K T nm Nk) (cv : CTV m0 w0 K T) (IE : HXE N m0 w0 K T nm Nk fof cvr f) (hf : f ≤ 230) (hxb : xb ≤ 8015) (hr4 : r ≤ 400) (hcl : NEC (K hi) ∧ K hi ≠ 26 ∧ K hi ≠ 27 ∧ hi ≤ T) (htot : tot sc0 + (hi - lo0) ≤ 4000 ∧ sc0.length ≤ o + 1) (hkd : (kd = 1 ∧ v2 = -1 ∧ v3 = 15 ∧ x1 = 0) ∨ (kd = 2 ∧ v3 = 0 ∧ x1 = 1) ∨ (kd = 3 ∧ v2 = -2 ∧ v3 = 33 ∧ x1 = 0)) : ∀ (k n lo xa q M kf : Nat) (m w : MS) (a cm : Nat) (Q : Nat → Nat) (sc : SCT) (L hs : List Nat) (fst last : Option Nat) (v5 : Int32), RWcK m0 1 27 (PEc m0 f o kd) k n lo hi xa xb q r → PTVs m0 w0 K T nm Nk fof cvr lst kd σ nd ndr lo0 a0 aP cm0 q0 Q0 Q1 sc0 mS wS L hs fst last lo a cm q Q sc m w v5 → (∀ l, fst = some l → l ≤ 24000 ∧ Q1 46 ≤ l) → PP (PLZs m0 w0 K T nm Nk fof cvr lst kd σ nd ndr lo0 a0 aP cm0 q0 Q0 Q1 sc0 mS wS hi r) (jg_Cm_parts N (jrc_Cm_fun N (D + 1)) kf m v2 v3 (lsI lst) v5 (I (n : Nat))) (kg_M_parts0 N (krc_M_behind N (d + 1)) M w x1 (I (nd : Nat)) (optI fst) (optI last) 1)
  | 0, n, lo, xa, q, M, kf, m, w, a, cm, Q, sc, L, hs, fst, last, v5, h, hP, hF => h.elim
  | k + 1, n, lo, xa, q, M, kf, m, w, a, cm, Q, sc, L, hs, fst, last, v5, h, hP, hF => by
    have t4 := c.2.1.1.1
    obtain ⟨mid, c1, s, hE, h⟩ := h
    have hd := PE_bd hE
    unfold HDc at hd
    cases kf with
    | zero => exact pp_nl
    | succ kf =>
    cases M with
    | zero => exact pp_nr
    | succ M =>
    show PP _ (jb_Cm_parts_6 N (jrc_Cm_fun N (D + 1)) (jg_Cm_parts N (jrc_Cm_fun N (D + 1)) kf) m v2 v3 (lsI lst) v5 (I (n : Nat))) (kb_M_parts0_19 N (krc_M_behind N (d + 1)) (kg_M_parts0 N (krc_M_behind N (d + 1)) M) w x1 (I (nd : Nat)) (optI fst) (optI last) 1)
    have hms : mid ≤ hi ∧ c1 ≤ xb ∧ s ≤ r ∧ n ≤ 8015 ∧ NEC (K mid) ∧ K mid ≠ 26 ∧ mid ≤ T := by
      rcases h with ⟨-, -, rfl, rfl, rfl⟩ | ⟨⟨-, k27⟩, n2, -, hw⟩
      · exact ⟨Nat.le_refl _, Nat.le_refl _, Nat.le_refl _, by omega, hcl.1, hcl.2.1, hcl.2.2.2⟩
      · have := RW_xb PE_bE hw
        unfold HDc at this
        have km : K mid = 27 := kA c (by omega) (k27 rfl)
        exact ⟨by omega, by omega, by omega, by omega, by rw [km]; exact ⟨rfl, by decide, by decide, by decide⟩, by rw [km]; decide, by omega⟩
    obtain ⟨hm1, hm2, hm3, hm4, hm5, hm6, hm7⟩ := hms
    unfold jb_Cm_parts_6
    rw [decide_eq_false (fun z => by
      have := (I_eq (x := ((n : Nat) : Int)) (y := 0) (by omega) (by omega) (by decide) (by decide)).mp z
      omega), br_f]
    have q46 := (hP.1.2.2.1.1.2 46 (by decide)).2
    have l01 := hP.2.2.2.2.2.1.2.1 46 (by decide)
    have o1 : c1 ≤ 8015 ∧ s ≤ 400 ∧ tot sc0 + (mid - lo0) ≤ 4000 ∧ sc0.length ≤ o + 1 := by clear h; exact ⟨by omega, by omega, by omega, by omega⟩
    refine part_one c cv IE hf hP hE o1.1 o1.2.1 ⟨hm5, hm6, hm7⟩ o1.2.2 hkd (fun m9 w9 a2 cm9 Q9 sc9 L9 hn v9 hP9 => ?_)
    have hX9 := hP9.1.2.2.1.1
    have fr9 := XCS_fr hP9.1.2.1
    refine l_ck (fun _ => ?_)
    unfold kb_M_parts0_214
    rw [tkS_e (k := 27) (s := 7) (XRS_wp c hX9) hX9.1.2.2.1 (by decide) rfl]
    have hF9 : ∀ l, some (fst.getD (Q 46)) = some l → l ≤ 24000 ∧ Q1 46 ≤ l := fun l hl => by
      injection hl with hl
      cases fst with
      | none =>
        have hl : Q 46 = l := hl
        omega
      | some y =>
        have hl : y = l := hl
        exact hF l (by rw [hl])
    rcases h with ⟨rfl, h21, rfl, rfl, rfl⟩ | ⟨⟨hk1, hk27⟩, n2, h21, hw⟩
    · rw [if_neg hcl.2.2.1, bnd_s, tre fr9 (by decide) h21]
      cases kf with
      | zero => exact pp_nl
      | succ kf =>
      cases M with
      | zero => exact pp_nr
      | succ M =>
      show PP _ (jb_Cm_parts_6 N (jrc_Cm_fun N (D + 1)) (jg_Cm_parts N (jrc_Cm_fun N (D + 1)) kf) m9 v2 v3 (lsI lst) v9 (I 0)) (kb_M_parts0_19 N (krc_M_behind N (d + 1)) (kg_M_parts0 N (krc_M_behind N (d + 1)) M) w9 x1 (I (nd : Nat)) (optI (some (fst.getD (Q 46)))) (I (Q 46 : Nat)) 0)
      unfold jb_Cm_parts_6 kb_M_parts0_19
      rw [show decide (I 0 = (0 : Int32)) = true from rfl, br_t, show decide ((0 : Int32) = 0) = true from rfl, br_t]
      exact pp_end ⟨a2, cm9, Q9, sc9, L9, _, fst.getD (Q 46), Q 46, rfl, hF9 _ rfl, hP9⟩
    · have hw1 := RW_xb PE_bE hw
      unfold HDc at hw1
      have km : K mid = 27 := kA c (by omega) (hk27 rfl)
      rw [if_pos km, bnd_s, tre fr9 (by decide) h21]
      exact pt_lp c cv IE hf hxb hr4 hcl htot hkd k n2 (mid + 1) c1 s M kf m9 (adv w9 mid) a2 cm9 Q9 sc9 L9 _ _ _ v9 hw (PTVs_ad (by omega) (by rw [km]; decide) hP9) hF9
theorem pt_ll (c : CTZ m0 w0 K T nm Nk) (cv : CTV m0 w0 K T) (IE : HXE N m0 w0 K T nm Nk fof cvr f) (hf : f ≤ 230) (hxb : xb ≤ 8015) (hr4 : r ≤ 400) (hcl : NEC (K hi) ∧ K hi ≠ 26 ∧ K hi ≠ 27 ∧ hi ≤ T) (htot : tot sc0 + (hi - lo0) ≤ 4000 ∧ sc0.length ≤ o + 1) (hkd : (kd = 1 ∧ v2 = -1 ∧ v3 = 15 ∧ x1 = 0) ∨ (kd = 2 ∧ v3 = 0 ∧ x1 = 1) ∨ (kd = 3 ∧ v2 = -2 ∧ v3 = 33 ∧ x1 = 0)) : ∀ (k n lo xa q M kf : Nat) (m w : MS) (a cm : Nat) (Q : Nat → Nat) (sc : SCT) (L hs : List Nat) (fst last : Option Nat) (v5 : Int32), RWcK m0 1 27 (PEc m0 f o kd) k n lo hi xa xb q r → PTVs m0 w0 K T nm Nk fof cvr lst kd σ nd ndr lo0 a0 aP cm0 q0 Q0 Q1 sc0 mS wS L hs fst last lo a cm q Q sc m w v5 → (∀ l, fst = some l → l ≤ 24000 ∧ Q1 46 ≤ l) → PP (PLZs m0 w0 K T nm Nk fof cvr lst kd σ nd ndr lo0 a0 aP cm0 q0 Q0 Q1 sc0 mS wS hi r) (jg_Cm_parts N (jrc_Cm_fun N D) kf m v2 v3 (lsI lst) v5 (I (n : Nat))) (kg_M_parts0 N (krc_M_behind N d) M w x1 (I (nd : Nat)) (optI fst) (optI last) 1) := fun k n lo xa q M kf m w a cm Q sc L hs fst last v5 h hP hF => by
  cases d with
  | zero =>
    cases M with
    | zero => exact pp_nr
    | succ M => exact pt_non
  | succ d =>
  cases D with
  | zero =>
    cases kf with
    | zero => exact pp_nl
    | succ kf =>
      have hd := RW_xb PE_bE h
      unfold HDc at hd
      show PP _ (jb_Cm_parts_6 N (jrc_Cm_fun N 0) (jg_Cm_parts N (jrc_Cm_fun N 0) kf) m v2 v3 (lsI lst) v5 (I (n : Nat))) _
      unfold jb_Cm_parts_6
      rw [decide_eq_false (fun z => by
        have := (I_eq (x := ((n : Nat) : Int)) (y := 0) (by omega) (by omega) (by decide) (by decide)).mp z
        omega), br_f]
      exact pp_nl
  | succ D => exact pt_lp c cv IE hf hxb hr4 hcl htot hkd k n lo xa q M kf m w a cm Q sc L hs fst last v5 h hP hF
end
