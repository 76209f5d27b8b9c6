set_option maxRecDepth 100000
section
variable {m v u v0 m1 m2 m3 mi : MS} {K nm W Nk : Nat → Nat} {sc sc1 sc2 t t3 : SCT} {e3 : List Nat × List Nat × Nat} {x y N i j f L st p p2 q q1 q2 k lo li ni n2 ν π cm X1 X2 : Nat} {d lp : List Nat} {a b c e : Int32} {gd R1 R2 Z1 Z2 : Bool} {B1 B2 : MS → Prop}
theorem exn_fun (hnm : NMJ nm) (hn : nod m2 ν = (I ((12 : Nat) : Int), I (p : Nat), a, I (π : Nat), I ((p2 : Nat) - 1 : Int))) (hp2 : p < p2 ∧ p2 ≤ 4001) (hlo : lo < ν) (hν : ν ≤ n2) (hl : n2 ≤ 8015) (hq : p ≤ q ∧ q ≤ q1 ∧ q1 ≤ q2 ∧ q2 ≤ p2) (g1 : ∀ j, p ≤ j → j < q → K j ≠ 3) (g2 : ∀ j, q2 ≤ j → j < p2 → K j ≠ 3) (hπ : lo < π ∧ π ≤ ni) (hT : TRB N K nm true mi li ni π q q1 (([], [], 0) :: sc) sc1 X1 W R1 Z1 B1) (hB : BDB N K nm mi li ni π q1 q2 sc1 (e3 :: t3) X2 W R2 Z2 B2) (hli : lo ≤ li) (h1 : KPO ni mi m2) (hk : Kcc mi m2) (hni : ni < ν) (hpt : m2.2.2.1 18 π = I ((lp.headD 0 : Nat) : Int)) (hx : NXT m2 lp) (hxm : ∀ x, x ∈ lp → lo < x ∧ x ≤ ni) (hll : lp.length ≤ 4000) (hlen : sc.length ≤ 26) (hb1 : tot sc1 ≤ tot sc + (q1 - q) ∧ sc1.length = sc.length + 1 ∧ X1 ≤ 1400) (hX2 : X2 ≤ 1400) (hS : SCX (([], [], 0) :: sc) (e3 :: t3) (max X1 X2)) (hH : HDs Nk K W q q2 (([], [], 0) :: sc) (e3 :: t3)) (ok : SOK (e3 :: t3)) (hTok : ∀ j, p ≤ j → j < p2 → m2.2.2.1 6 j = I (K j : Nat) ∧ K j < 46 ∧ (K j = 3 → m2.2.2.1 7 j = I (nm (Nk j) : Nat) ∧ Nk j < 1400 ∧ W j ≤ 32)) (s1 : STB B1) (s2 : STB B2) : EXN N K nm gd m2 lo n2 ν p p2 sc t3 0 W (gd || (R1 || R2)) ((Z1 || Z2) || decide (40 < max X1 X2 + e3.2.1.length)) (fun m => B1 m ∨ B2 m) := by
  refine exn_cmp (k := 12) (by unfold CMK; omega) ⟨by decide, by decide⟩ hn (by omega) hlo hν hl (fun _ d m3 cm last kx cp ee => ?_)
  have bds := hS.2.2
  have tl3 := BDs_len bds
  have n3 := BDs_nm bds
  unfold cmpR hb_Cm_compound_455
  rw [tnI (n := ν) rfl (by omega), ee.1]
  refine pk_ck (fun _ => ?_)
  rw [show decide (I ((12 : Nat) : Int) = 8) = false from rfl, br_fq, show decide (I ((12 : Nat) : Int) = 9) = false from rfl, br_fq, show decide (I ((12 : Nat) : Int) = 10) = false from rfl, br_fq, show decide (I ((12 : Nat) : Int) = 11) = false from rfl, br_fq, show decide (I ((12 : Nat) : Int) = 12) = true from rfl, br_tq]
  cases d with
  | zero => exact pk_none
  | succ d =>
    refine pk_bnd ?_
    show PK _ (hm_Cm_fun N (hrc_Cm_fun N d) m3 (I (ν : Nat)))
    refine pk_mo (Q := fun u (_ : Unit) => CPO K nm p p2 sc t3 0 W (R1 || R2) ((Z1 || Z2) || decide (40 < max X1 X2 + e3.2.1.length)) (fun m => B1 m ∨ B2 m) cm m3 u) ?_ (fun v _ q => pk_some q)
    have eπ : nod m3 π = nod m2 π ∧ m3.2.2.1 18 π = m2.2.2.1 18 π := by
      have := (kx.1 π hπ.1 (by omega)).1
      exact ⟨this, (Prod.mk.inj (Prod.mk.inj (Prod.mk.inj this).2).2).1⟩
    have hx3 : NXT m3 lp := NXT_k hx (fun x hx => by obtain ⟨y1, y2⟩ := hxm x hx; exact (kx.1 x y1 (by omega)).2 (by omega))
    unfold hm_Cm_fun hb_Cm_fun_0
    rw [tnI (n := ν) rfl (by omega), ee.2.2.2.1, tnI (n := π) rfl (by omega), eπ.2, hpt, ee.2.2.1]
    refine pk_ck (fun _ => pk_ck (fun _ => pk_ck (fun _ => pk_bnd (pk_mo (length_p (N := N) hx3) (fun u18 r18 h18 => ?_)))))
    rw [h18.1, h18.2]
    refine pk_lt (pk_bnd (fun w23 r23 x23 => pk_bnd (fun w26 r26 x26 => pk_ck (fun _ => pk_lt (pk_ck (fun _ => pk_lt ?_))))))
    refine pk_lt (pk_lt (pk_ck (fun _ => pk_lt (pk_ck (fun _ => pk_lt (pk_ck (fun _ => pk_ck (fun _ => ?_))))))))
    have f23 := yu_hm_Co_put (u0 := upI m3 712 0) Ku_rf w23 r23 x23
    have f26 := yu_hm_Co_hook (u0 := upI m3 712 0) f23 w26 r26 x26
    have c709 : w26.1 709 = I ((sc.length - 1 : Nat) : Int) := by rw [f26.1 709 (by decide), upI_ne (by decide)]; exact cp.2.1.1
    have sl1 := cp.2.1.2.1.1
    have y42 : (if 31 < ((upA (upA w26 30 (upd (w26.2.2.1 30) a.toNatClampNeg (I ((lp.length : Nat) : Int)))) 31 (upd ((upA w26 30 (upd (w26.2.2.1 30) a.toNatClampNeg (I ((lp.length : Nat) : Int)))).2.2.1 31) a.toNatClampNeg ((upA w26 30 (upd (w26.2.2.1 30) a.toNatClampNeg (I ((lp.length : Nat) : Int)))).1 441))).1 709) + 1 then (31 : Int32) else ((upA (upA w26 30 (upd (w26.2.2.1 30) a.toNatClampNeg (I ((lp.length : Nat) : Int)))) 31 (upd ((upA w26 30 (upd (w26.2.2.1 30) a.toNatClampNeg (I ((lp.length : Nat) : Int)))).2.2.1 31) a.toNatClampNeg ((upA w26 30 (upd (w26.2.2.1 30) a.toNatClampNeg (I ((lp.length : Nat) : Int)))).1 441))).1 709) + 1) = I (sc.length : Nat) := by
      show (if 31 < w26.1 709 + 1 then (31 : Int32) else w26.1 709 + 1) = _
      rw [c709, i_suc, show sc.length - 1 + 1 = sc.length by omega, if_neg (fun z => by have := (I_lt (x := 31) (y := (sc.length : Nat)) (by decide) (by decide) (by omega) (by omega)).mp z; omega)]
    rw [y42]
    generalize hw40 : upA (upA w26 30 (upd (w26.2.2.1 30) a.toNatClampNeg (I ((lp.length : Nat) : Int)))) 31 (upd ((upA w26 30 (upd (w26.2.2.1 30) a.toNatClampNeg (I ((lp.length : Nat) : Int)))).2.2.1 31) a.toNatClampNeg ((upA w26 30 (upd (w26.2.2.1 30) a.toNatClampNeg (I ((lp.length : Nat) : Int)))).1 441)) = w40
    have i40 : ∀ k, k ≠ 441 → k ≠ 712 → w40.1 k = m3.1 k := fun k h1 h2 => by
      rw [← hw40]
      show w26.1 k = m3.1 k
      rw [f26.1 k h1, upI_ne h2]
    have z40 : m3.1 441 ≤ w40.1 441 := by
      rw [← hw40]
      have := f26.2.2
      rw [upI_ne (by decide)] at this
      exact this
    have c712 : w40.1 712 = 0 := by
      rw [← hw40]
      show w26.1 712 = 0
      rw [f26.1 712 (by decide), upI_at]
    have r40 : ∀ k, k ≠ 23 → k ≠ 30 → k ≠ 31 → w40.2.2.1 k = m3.2.2.1 k := fun k h1 h2 h3 => by
      rw [← hw40, upA_no h3, upA_no h2]
      exact f26.2.1 k h1
    rw [show (upI w40 709 (I (sc.length : Nat))).1 709 = I (sc.length : Nat) from upI_at]
    have tS : (I (sc.length : Nat)).toNatClampNeg = sc.length := tnI (n := sc.length) rfl (by omega)
    rw [tS]
    rw [show (upA (upI w40 709 (I (sc.length : Nat))) 40 (upd ((upI w40 709 (I (sc.length : Nat))).2.2.1 40) sc.length ((upI w40 709 (I (sc.length : Nat))).1 706))).1 709 = I (sc.length : Nat) from (by show (upI w40 709 (I (sc.length : Nat))).1 709 = _; exact upI_at), tS]
    generalize hw52 : upA (upA (upI w40 709 (I (sc.length : Nat))) 40 (upd ((upI w40 709 (I (sc.length : Nat))).2.2.1 40) sc.length ((upI w40 709 (I (sc.length : Nat))).1 706))) 41 (upd ((upA (upI w40 709 (I (sc.length : Nat))) 40 (upd ((upI w40 709 (I (sc.length : Nat))).2.2.1 40) sc.length ((upI w40 709 (I (sc.length : Nat))).1 706))).2.2.1 41) sc.length 0) = w52
    have i52 : ∀ k, k ≠ 441 → k ≠ 712 → k ≠ 709 → w52.1 k = m3.1 k := fun k h1 h2 h3 => by
      rw [← hw52]
      show (upI w40 709 (I (sc.length : Nat))).1 k = m3.1 k
      rw [upI_ne h3]
      exact i40 k h1 h2
    have z52 : m3.1 441 ≤ w52.1 441 := by
      rw [← hw52]
      show m3.1 441 ≤ (upI w40 709 (I (sc.length : Nat))).1 441
      rw [upI_ne (by decide)]
      exact z40
    have j709 : w52.1 709 = I (sc.length : Nat) := by rw [← hw52]; show (upI w40 709 (I (sc.length : Nat))).1 709 = _; exact upI_at
    have j712 : w52.1 712 = 0 := by rw [← hw52]; show (upI w40 709 (I (sc.length : Nat))).1 712 = 0; rw [upI_ne (by decide)]; exact c712
    have r52 : ∀ k, k ≠ 23 → k ≠ 30 → k ≠ 31 → k ≠ 40 → k ≠ 41 → w52.2.2.1 k = m3.2.2.1 k := fun k h1 h2 h3 h4 h5 => by
      rw [← hw52, upA_no h5, upA_no h4]
      exact r40 k h1 h2 h3
    have q40 : w52.2.2.1 40 = upd (m3.2.2.1 40) sc.length (I (tot sc : Nat)) := by
      rw [← hw52, upA_no (by decide), upA_at]
      show upd (w40.2.2.1 40) sc.length ((upI w40 709 (I (sc.length : Nat))).1 706) = _
      rw [r40 40 (by decide) (by decide) (by decide), upI_ne (by decide), i40 706 (by decide) (by decide), cp.2.1.2.2.1]
    have q41 : w52.2.2.1 41 = upd (m3.2.2.1 41) sc.length 0 := by
      rw [← hw52, upA_at, upA_no (by decide)]
      show upd (w40.2.2.1 41) sc.length 0 = _
      rw [r40 41 (by decide) (by decide) (by decide)]
    have f52 : FRC m3 w52 := ⟨fun k hk => i52 k (by omega) (by omega) (by omega), fun k hk => r52 k (by omega) (by omega) (by omega) (by omega) (by omega)⟩
    have cn52 : CNs w52 nm (([], [], 0) :: sc) := by
      refine ⟨by rw [j709]; rfl, ⟨by rw [List.length_cons]; omega, by rw [List.length_cons]; omega⟩, by rw [i52 706 (by decide) (by decide) (by decide)]; exact cp.2.1.2.2.1, cp.2.1.2.2.2.1, ?_, fun k x hx => (by rw [List.getElem?_nil] at hx; cases hx), ?_⟩
      · rw [q40, upd_at]
      · exact CNl_fr2 cp.2.1.2.2.2.2 (fun j hj => by rw [q40, upd_no (by omega)]) (fun j _ => by rw [r52 39 (by decide) (by decide) (by decide) (by decide) (by decide)])
    have cp52 : CPR nm false q q2 (([], [], 0) :: sc) 0 w52 := by
      refine ⟨by rw [i52 714 (by decide) (by decide) (by decide)]; exact cp.1, cn52, ?_, by omega, by rw [i52 713 (by decide) (by decide) (by decide)]; exact cp.2.2.2.2.1, by rw [j712]; rfl, ?_⟩
      · rw [q41]
        show upd (m3.2.2.1 41) sc.length 0 sc.length = _
        rw [upd_at]
        rfl
      · have := cp.2.2.2.2.2.2
        show tot sc + 0 + (q2 - q) ≤ 4000
        omega
    have kx52 : KPX li ni π mi w52 := by
      have k0 : KPX li ni π mi m3 := ⟨fun j a1 a2 => ⟨(kx.1 j (by omega) (by omega)).1.trans (h1 j a2).1, fun _ => ((kx.1 j (by omega) (by omega)).2 (by omega)).trans (h1 j a2).2⟩, Kc_tr hk kx.2⟩
      exact KPX_f k0 f52
    have hc : decide (I ((lp.length : Nat) : Int) < 0) = false := decide_eq_false (fun z => by have := (I_lt (x := (lp.length : Nat)) (y := 0) (by omega) (by omega) (by omega) (by omega)).mp z; omega)
    have cla := fun line => cla_p (d := d) (cnt := I ((lp.length : Nat) : Int)) (line := line) hT hB ⟨hq.2.1, hq.2.2.1⟩ (by omega) kx52 hc hb1 s2 (b := 0) ⟨Nat.zero_le _, by show tot t3 + 0 = tot sc + 0; omega⟩ cp52
    refine pk_bnd (pk_mo (cla _) (fun u63 r63 q63 => ?_))
    rcases q63 with ⟨qf, qs, qr⟩ | ⟨⟨qf, qb⟩, qn⟩
    · refine pk_mo (Q := fun w (_ : Unit) => Kzc u63 w) ?_ (fun w _ z => ?_)
      · intro w r x
        have hv : Kzc u63 u63 := ⟨qs, FRC_rf⟩
        refine (?_ : KzE u63 _) w r x
        obtain ⟨hS0, hS1, hS2, hS3, hS4, hS5, hS6, hS7, hS8, hS9, hS10, hS11, hS12⟩ := yz_hrc_Cm_fun (u0 := u63) (N := N) d
        unfold hb_Cm_fun_303 hb_Cm_fun_308
        repeat' (first | with_reducible assumption | with_reducible refine Kz_br ?_ ?_ | with_reducible refine Kz_bnd ?_ (fun _ _ _ => ?_) | with_reducible refine Kz_ck ?_ | with_reducible refine Kz_ltm ?_ (fun _ _ => ?_) | with_reducible refine Kz_some ?_ | with_reducible exact yz_hm_Cm_notInGuard (by assumption) | with_reducible exact yz_hr_Cm_pattern (by assumption) | with_reducible exact yz_hm_Cm_forget (by assumption) | with_reducible exact yz_hm_Co_arrive (by assumption) | with_reducible exact yz_hm_Cm_funOf (by assumption) | with_reducible exact yz_hm_Co_hook (by assumption) | with_reducible exact yz_hm_Co_put (by assumption) | with_reducible exact yz_hm_Cm_term (by assumption) | with_reducible exact yz_hm_Cm_string (by assumption) | with_reducible exact yz_hm_Co_seek (by assumption) | with_reducible exact yz_hm_Cm_predefinedOf (by assumption) | with_reducible exact yz_hm_Cm_fault (by assumption) | with_reducible exact yz_hm_Cm_joining (by assumption) | with_reducible exact yz_hm_Cm_hold (by assumption) | with_reducible exact yz_hm_Co_set (by assumption) | with_reducible exact yz_hm_Tr_length (by assumption) | with_reducible exact hS0 _ _ (by assumption) | with_reducible exact hS1 _ _ _ (by assumption) | with_reducible exact hS2 _ _ _ _ _ (by assumption) | with_reducible exact hS3 _ _ _ (by assumption) | with_reducible exact hS4 _ _ _ (by assumption) | with_reducible exact hS5 _ _ _ (by assumption) | with_reducible exact hS6 _ _ _ (by assumption) | with_reducible exact hS7 _ _ (by assumption) | with_reducible exact hS8 _ _ (by assumption) | with_reducible exact hS9 _ _ (by assumption) | with_reducible exact hS10 _ _ _ (by assumption) | with_reducible exact hS11 _ _ _ (by assumption) | with_reducible exact hS12 _ _ _ _ (by assumption) | with_reducible exact yz_hg_Cm_apply hS0 hS1 hS2 hS3 hS4 hS5 hS6 hS7 hS8 hS9 hS10 hS11 hS12 _ _ _ _ _ (by assumption) | with_reducible exact yz_hg_Cm_row hS0 hS1 hS2 hS3 hS4 hS5 hS6 hS7 hS8 hS9 hS10 hS11 hS12 _ _ _ (by assumption) | with_reducible exact yz_hg_Cm_signs hS0 hS1 hS2 hS3 hS4 hS5 hS6 hS7 hS8 hS9 hS10 hS11 hS12 _ _ _ _ _ _ _ (by assumption) | with_reducible exact yz_hg_Cm_body hS0 hS1 hS2 hS3 hS4 hS5 hS6 hS7 hS8 hS9 hS10 hS11 hS12 _ _ _ _ (by assumption) | with_reducible exact yz_hg_Cm_parts hS0 hS1 hS2 hS3 hS4 hS5 hS6 hS7 hS8 hS9 hS10 hS11 hS12 _ _ _ _ _ _ _ (by assumption) | with_reducible exact (yz_hg_Cm_tries hS0 hS1 hS2 hS3 hS4 hS5 hS6 hS7 hS8 hS9 hS10 hS11 hS12 _).1 _ _ _ _ _ (by assumption) | with_reducible exact (yz_hg_Cm_tries hS0 hS1 hS2 hS3 hS4 hS5 hS6 hS7 hS8 hS9 hS10 hS11 hS12 _).2 _ _ _ _ (by assumption) | with_reducible refine Kz_ltv (fun _ => ?_) | with_reducible refine Kz_I ?_ (by decide) | with_reducible refine Kz_A ?_ (by decide))
      · refine CPO_z (v := u63) ⟨?_, qs, FRC_tr f52 qr⟩ z
        rcases qf with z | z | z
        · exact Or.inl z
        · exact Or.inr (Or.inl ((s1 m3 w52 f52).mp z))
        · exact Or.inr (Or.inr ((s2 m3 w52 f52).mp z))
    · have fr63 := FRC_tr f52 qn.2.2.2.2.2.2.2.2
      refine pk_bnd (fun w65 r65 x65 => pk_ck (fun _ => pk_lt (pk_ck (fun _ => pk_lt (pk_bnd (fun w75 r75 x75 => pk_bnd (fun w78 r78 x78 => pk_bnd (fun w81 r81 x81 => pk_ck (fun _ => pk_lt (pk_bnd (fun w92 r92 x92 => pk_ck (fun _ => pk_ck (fun _ => ?_)))))))))))))
      have f65 := yu_hm_Co_put (u0 := u63) Ku_rf w65 r65 x65
      have i65 : ∀ k, k ≠ 441 → w65.1 k = u63.1 k := f65.1
      have a65 := AFT_u f65
      have a72 : AFT u63 (upI w65 709 (w65.1 709 - 1)) := AFT_tr a65 (AFT_I (Or.inl rfl))
      have a73 : AFT u63 (upI (upI w65 709 (w65.1 709 - 1)) 712 (m3.1 712)) := AFT_tr a72 (AFT_I (Or.inr (Or.inr rfl)))
      generalize hw73 : upI (upI w65 709 (w65.1 709 - 1)) 712 (m3.1 712) = w73 at x75 a73
      obtain ⟨⟨c1, c2, c3, c4, c5⟩, b2, b3, b4, b5, b6, b7, b8, b9⟩ := qn
      have e709 : w73.1 709 = I ((sc.length - 1 : Nat) : Int) := by
        rw [← hw73, upI_ne (by decide), upI_at, i65 709 (by decide), c1, cutS_len]
        show I ((t3.length + 1 - 1 : Nat) : Int) - 1 = _
        rw [lit1q, I_sub]
        congr 1
        omega
      have e712 : w73.1 712 = m3.1 712 := by rw [← hw73, upI_at]
      have f75 := yu_hm_Co_arrive (u0 := w73) Ku_rf w75 r75 x75
      have f78 := yu_hm_Co_put (u0 := w73) f75 w78 r78 x78
      have f81 := yu_hm_Co_put (u0 := w73) f78 w81 r81 x81
      generalize hw90 : upA w81 32 (upd (w81.2.2.1 32) a.toNatClampNeg (w81.1 441)) = w90 at x92
      have a90 : AFT u63 w90 := by rw [← hw90]; exact AFT_tr (AFT_tr a73 (AFT_u f81)) AFT_A
      have i90 : ∀ k, k ≠ 441 → w90.1 k = w73.1 k := fun k hk => by rw [← hw90]; exact f81.1 k hk
      have f92 := yu_hm_Co_put (u0 := w90) Ku_rf w92 r92 x92
      have a92 := AFT_tr a90 (AFT_u f92)
      have i92 : ∀ k, k ≠ 441 → w92.1 k = w73.1 k := fun k hk => (f92.1 k hk).trans (i90 k hk)
      have fr92 := FRC_tr fr63 (AFT_fr a92)
      have tk : TKN w92 K nm Nk W p p2 := fun j y1 y2 => by
        obtain ⟨t1, t2, t3⟩ := hTok j y1 y2
        refine ⟨by rw [fr92.2 6 (by omega), kx.2.2 6 (by omega)]; exact t1, t2, fun k3 => ?_⟩
        obtain ⟨t4, t5, t6⟩ := t3 k3
        refine ⟨by rw [fr92.2 7 (by omega), kx.2.2 7 (by omega)]; exact t4, t5, ?_, t6⟩
        rw [a92.2.1 42 (by decide) (by decide), b4]
        unfold wup
        refine if_pos ⟨?_, ?_, k3⟩
        · exact Nat.le_of_not_lt (fun z => g1 j y1 z k3)
        · exact Nat.lt_of_not_le (fun z => g2 j z y2 k3)
      have h441 := (put_pk (u := w90) (N := N) w92 r92 x92).1
      rw [show w92.2.2.1 17 ν = I (p : Nat) from by rw [fr92.2 17 (by omega)]; exact ee.2.1, show w92.2.2.1 20 ν = I ((p2 : Nat) - 1 : Int) from by rw [fr92.2 20 (by omega)]; exact ee.2.2.2.2]
      refine pk_bnd (pk_mo (hold_q (L := sc.length - 1) hnm h441 hp2.1 hp2.2 tk (by rw [i92 709 (by decide)]; exact e709) (by omega)) (fun w104 r104 q104 => pk_ck (fun _ => pk_bnd (fun w111 r111 x111 => ?_))))
      obtain ⟨f104, dd, hr104, d1, d2, d3⟩ := q104
      have f111 := yu_hm_Co_set (u0 := w92) f104 w111 r111 x111
      have a111 := AFT_tr a92 (AFT_u f111)
      have i111 : ∀ k, k ≠ 441 → w111.1 k = w73.1 k := fun k hk => (f111.1 k hk).trans (i92 k hk)
      have e711 : w111.1 711 = u63.1 711 := by rw [i111 711 (by decide), ← hw73, upI_ne (by decide), upI_ne (by decide)]; exact i65 711 (by decide)
      have nmx : w65.2.2.1 41 (w65.1 709).toNatClampNeg = I ((max X1 X2 : Nat) : Int) := by
        rw [i65 709 (by decide), c1, cutS_len, tnI (n := (e3 :: t3).length - 1) rfl (by rw [List.length_cons]; omega), f65.2.1 41 (by decide)]
        show u63.2.2.1 41 (t3.length + 1 - 1) = _
        rw [show t3.length + 1 - 1 = sc.length by omega]
        have b2 : u63.2.2.1 41 sc.length = I ((max 0 (max X1 X2) : Nat) : Int) := b2
        rw [b2, Nat.max_eq_right (Nat.zero_le _)]
      have dlen : dd.length ≤ 1400 := nd_len 1400 dd d1 (fun x hx => (d2 x hx).1)
      have hd1 := hH.1.1
      have hd2 := hH.1.2.1
      have nd := ok.1.2.2.2.2.2.2
      have h60 := ok.1.2.2.1
      have sL : ∀ w : Nat, w ≤ sc.length - 1 ↔ w < sc.length := fun w => by omega
      have toq : ∀ i, p ≤ i → i < p2 → K i = 3 → q ≤ i ∧ i < q2 := fun i y1 y2 y3 => ⟨Nat.le_of_not_lt (fun z => g1 i y1 z y3), Nat.lt_of_not_le (fun z => g2 i z y2 y3)⟩
      have up : e3.2.1.length < 60 → dd.length ≤ e3.2.1.length := fun h6 => nd_sub d1 (fun x hx => by
        obtain ⟨_, i, y1, y2, y3, y4⟩ := d2 x hx
        obtain ⟨z1, z2⟩ := toq i y1.1 y1.2 y2
        rw [← y3]
        exact hd2 h6 i z1 z2 y2 ((sL _).mp y4))
      have dn : w104.1 441 < 24000 → e3.2.1.length ≤ dd.length := fun h24 => nd_sub nd (fun x hx => by
        rcases hd1 x hx with z | ⟨i, y1, y2, y3, y4⟩
        · exact absurd z (List.not_mem_nil)
        · rw [← y3]
          exact d3 h24 i (by omega) (by omega) y2 ((sL _).mpr y4))
      have le104 : w104.1 441 ≤ w111.1 441 := by
        have := yu_hm_Co_set (u0 := w104) Ku_rf w111 r111 x111
        exact this.2.2
      have fin : ∀ t1 : Int32, (w111.1 441 < 24000 → (t1 = 0 ↔ (w111.1 711 = 0 ∧ max X1 X2 + e3.2.1.length ≤ 40))) → (w111.1 711 = 0 → max X1 X2 + e3.2.1.length ≤ 40 → t1 = 0) → CPO K nm p p2 sc t3 0 W (R1 || R2) ((Z1 || Z2) || decide (40 < max X1 X2 + e3.2.1.length)) (fun m => B1 m ∨ B2 m) cm m3 (upI w111 711 t1) := fun t1 ht1 ht2 => by
        have aE : AFT u63 (upI w111 711 t1) := AFT_tr a111 (AFT_I (Or.inr (Or.inl rfl)))
        have frE := FRC_tr fr63 (AFT_fr aE)
        refine CPO_ok ⟨qf, fun z => qb ?_⟩ ⟨⟨?_, ?_, ?_, ?_, ?_⟩, ?_, fun j hj => ?_, ?_, ?_, ?_, ?_, ?_, frE⟩
        · rcases z with z | z
          · exact Or.inl ((s1 m3 w52 f52).mpr z)
          · exact Or.inr ((s2 m3 w52 f52).mpr z)
        · rw [upI_ne (by decide), i111 709 (by decide), e709, tl3.1]
        · rw [tl3.1]; omega
        · rw [aE.1 706 (by decide), c3, cutS_tot (Nat.zero_le _)]
          rfl
        · rw [tl3.2]; exact cp.2.1.2.2.2.1
        · have c5 : CNl u63 nm t3 := c5.2.2
          exact CNl_fr c5 (aE.2.1 40 (by decide) (by decide)) (fun j _ => by rw [aE.2.1 39 (by decide) (by decide)])
        · rw [aE.2.1 41 (by decide) (by decide), Nat.max_eq_left (Nat.zero_le cm)]
          have b3 := b3 (sc.length - 1) (by show sc.length - 1 < sc.length + 1 - 1; omega)
          rw [b3, q41, upd_no (by omega)]
          exact cp.2.2.1
        · rw [aE.2.1 41 (by decide) (by decide), b3 j (by show j < sc.length + 1 - 1; omega), q41, upd_no (by omega)]
        · rw [aE.2.1 42 (by decide) (by decide), b4, r52 42 (by decide) (by decide) (by decide) (by decide) (by decide), wup_ext ⟨hq.1, by omega, hq.2.2.2⟩ g1 g2]
        · have e2 : w52.1 711 = m3.1 711 := i52 711 (by decide) (by decide) (by decide)
          refine C11_tr (v := u63) (C11_b b5 z52 e2) ⟨aE.2.2, fun z => ?_, fun z z0 => ?_⟩
          · rw [upI_ne (by decide)] at z
            rw [upI_at, ht1 z, e711, decide_eq_false_iff_not]
            constructor
            · rintro ⟨y1, y2⟩; exact ⟨by omega, y1⟩
            · rintro ⟨y1, y2⟩; exact ⟨y2, by omega⟩
          · rw [decide_eq_false_iff_not] at z
            rw [upI_at]
            exact ht2 (by rw [e711]; exact z0) (by omega)
        · rw [aE.1 714 (by decide), b6]; exact i52 714 (by decide) (by decide) (by decide)
        · rw [upI_ne (by decide), i111 712 (by decide)]; exact e712
        · rw [aE.1 713 (by decide), b8]; exact i52 713 (by decide) (by decide) (by decide)
      have cmp : I ((max X1 X2 : Nat) : Int) + I ((dd.length : Nat) : Int) ≤ 40 ↔ max X1 X2 + dd.length ≤ 40 := by
        rw [I_add]
        exact (I_le (y := 40) (by omega) (by omega) (by decide) (by decide)).trans (by omega)
      rw [hr104, nmx]
      unfold hb_Cm_fun_303 hb_Cm_fun_308
      refine pk_br (fun z => pk_br (fun z2 => pk_ck (fun _ => pk_lt (pk_some (fin 0 (fun h => ⟨fun _ => ⟨of_decide_eq_true z, ?_⟩, fun _ => rfl⟩) (fun _ _ => rfl))))) (fun z2 => pk_ck (fun _ => pk_lt (pk_some (fin 1 (fun h => ⟨fun y => absurd y (by decide), fun y => ?_⟩) (fun _ y => ?_)))))) (fun z => pk_ck (fun _ => pk_lt (pk_some (fin 1 (fun h => ⟨fun y => absurd y (by decide), fun y => absurd y.1 (of_decide_eq_false z)⟩) (fun y _ => absurd y (of_decide_eq_false z))))))
      · have := cmp.mp (of_decide_eq_true z2)
        have := dn (Int32.lt_of_le_of_lt le104 h)
        omega
      · have z2 : ¬ max X1 X2 + dd.length ≤ 40 := fun y => of_decide_eq_false z2 (cmp.mpr y)
        have := up (by omega)
        omega
      · have z2 : ¬ max X1 X2 + dd.length ≤ 40 := fun y => of_decide_eq_false z2 (cmp.mpr y)
        have := up (by omega)
        omega
end
