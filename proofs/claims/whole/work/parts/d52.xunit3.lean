/-! expressions: units, both: one level more -/
set_option maxRecDepth 100000
section
variable {α β : Type} {m0 w0 m w m2 w2 m3 w3 v u w1 : MS} {K nm Nk W W2 : Nat → Nat} {N T D d o a a0 b b0 c cm cm0 cm2 cm3 q q0 r s lo lo0 mid hi i j f f2 n k kk p σ tk x xa xb M m1 lv : Nat} {Q Q0 Q2 Q3 Q4 : Nat → Nat} {sc sc0 sc2 sc3 t : SCT} {e : List Nat × List Nat × Nat} {g lst l2 : Bool} {L L1 L2 : List Nat} {idc fof cvr : Int → Int → Int} {z : Unit} {rt v1 v2 v3 v5 : Int32} {fc : MS → Unit → Option (MS × Unit)} {RR : MS → Unit → MS → Int32 → Prop} {A' : Option (MS × Unit)} {B' : Option (MS × Int32)}
/-- behind what is PRIMARY: no ( -/
theorem prim_end {S : SG_M_behind} (c : CTZ m0 w0 K T nm Nk) (hX : XRS w0 T w hi Q sc) (k20 : K hi ≠ 20) (h : PP RR A' (some (w, rt))) : PP RR A' (kg_M_primary N S M w v1 rt) := by
  cases M with
  | zero => exact pp_nr
  | succ M =>
    show PP RR A' (kb_M_primary_128 N S (kg_M_primary N S M) w v1 rt)
    unfold kb_M_primary_128 kb_M_primary_182
    rw [decide_eq_true hX.1.2.2.1, br_t, isS_e (k := 20) (s := 0) (XRS_wp c hX) (by decide) rfl, if_neg k20, bnd_s, show decide ((0 : Int32) = 0) = true from rfl, br_t]
    exact h
/-- a sign ahead of a unit: words, a node -/
theorem neg_n {kd t1 : Int32} {F : MS → Int32 → Option (MS × Int32)} (c : CTZ m0 w0 K T nm Nk) (ht : XTR m0 w0 K T nm Nk fof cvr lst g [] lo hi a b cm cm2 q r Q Q2 sc sc2 m w m2 w2) (hiT : hi ≤ T) (hlh : lo < hi) (ha : b < 23990) (hk : (kd = 7 ∧ t1 = 12) ∨ (kd = 8 ∧ t1 = 11)) (hh : ∀ v, XZ m0 w0 K T nm Nk fof cvr lst g lo hi a cm q r Q sc m w (ptc m2 b t1) () v (I (Q2 32 : Nat)) → PP RR A' (F v (I (Q2 32 : Nat)))) : PP RR A' (bnd (fm_M_node N w2 kd (I (lo : Nat))) F) := by
  have hC := ht.2.1
  have hR := ht.2.2.1.1
  have t4 := c.2.1.1.1
  have l1 := ht.1
  obtain ⟨n1, n2⟩ := XRS_q hR
  have kb : vp_nar .byte (kd.toInt8.toInt32) = kd := by rcases hk with ⟨rfl, -⟩ | ⟨rfl, -⟩ <;> rfl
  refine r_nod n1 n2 kb (nsh (by omega)) (fun h16 => ?_)
  have hN : NOD w2 (nwD w2 (Q2 32) kd (I (lo : Nat))) (Q2 32) := NOD_0 n1
  obtain ⟨d1, d2, d3, d4, d5, d6, d7, d8⟩ := nwD_at (w := w2) (i := Q2 32) (k := kd) (t := I (lo : Nat))
  have d9 : (nwD w2 (Q2 32) kd (I (lo : Nat))).1 69 = I (hi : Nat) := by rw [nwD_i (by decide)]; exact hR.1.2.1.1
  generalize nwD w2 (Q2 32) kd (I (lo : Nat)) = v at hN d1 d2 d3 d4 d5 d6 d7 d8 d9
  have a23 : A v 23 (Q2 32) = kd.toInt := congrArg Int32.toInt d1
  have a28 : A v 28 (Q2 32) = -1 := congrArg Int32.toInt d6
  have h1 := XCS_put (x := t1) hC ha
  have em : ptc m2 b t1 = ptcs m2 b [t1] := rfl
  refine hh v (XZ_n (L := []) (c := b + 1) ht (XT_nod hC hR ht.2.2.1.2 ⟨Nat.le_refl _, hiT⟩ (fun j j1 j2 => by omega) (by omega) h1 (by rw [em]; exact XFC_ps XFC_rf (Nat.le_refl _)) (by rw [em]; exact ptcs_r (by decide)) hN rfl h16 d9 (fun n hn => by cases hn) (fun C P R J H fi hx => ⟨fun u u1 u2 => by omega, fun y hy hr => ?_⟩)) (by omega) hlh a28 (Or.inl ⟨rfl, by rw [a23]; rcases hk with ⟨rfl, -⟩ | ⟨rfl, -⟩ <;> decide⟩))
  have gc := fi.1
  rw [em] at gc
  have ro : ∀ k, 23 ≤ k ∧ k ≤ 31 → k ≠ 27 ∧ k ≠ 29 ∧ k ≠ 30 → R k (Q2 32) = A v k (Q2 32) := fun k k1 k2 => FIN_R fi k1 k2 ⟨Nat.le_refl _, by rw [qst_at]; omega⟩
  have R23 := (ro 23 (by decide) (by decide)).trans a23
  have c0 := C_0 gc (show b < b + 1 by omega)
  obtain ⟨b1, b2⟩ := XB c.2.2.1 hC hR hx h16
  obtain ⟨d, hd⟩ := hr
  rw [qst_at] at hd
  rcases hk with ⟨rfl, rfl⟩ | ⟨rfl, rfl⟩
  · exact cr_1 b1 b2 ⟨d, Or.inr (Or.inr (Or.inr (Or.inr (Or.inr (Or.inr (Or.inr (Or.inl ⟨R23, c0, hd⟩)))))))⟩
  · exact cr_1 b1 b2 ⟨d, Or.inr (Or.inr (Or.inr (Or.inr (Or.inr (Or.inr (Or.inr (Or.inr (Or.inl ⟨R23, c0, hd⟩))))))))⟩
theorem rk6 {k : Nat} (h : k < 46) : rkK k ≤ 6 := by
  have : ∀ k, k < 46 → rkK k ≤ 6 := by decide
  exact this _ h
theorem x_un (c : CTZ m0 w0 K T nm Nk) (cv : CTV m0 w0 K T) (I0 : HX0 N m0 w0 K T nm Nk fof cvr (f + 1)) (I00 : HX0 N m0 w0 K T nm Nk fof cvr f) (IH : HXE N m0 w0 K T nm Nk fof cvr f) (IU : HXU N m0 w0 K T nm Nk fof cvr f) : HXU N m0 w0 K T nm Nk fof cvr (f + 1) := by
  intro D d M o n lo hi xa xb q r b0 m w a cm Q sc g lst RR fc hE hxb hr4 hcl hC hR hq htot hb0 hh
  have t4 := c.2.1.1.1
  have hd := xp_hd hE
  have fr := XCS_fr hC
  have hn : n ≤ 8015 := by omega
  have k46 := c.2.1.1.k46 hcl.2
  cases D with
  | zero => exact pp_nl
  | succ D =>
  -- what is PRIMARY
  have prim : A m0 6 lo ≠ 14 → A m0 6 lo ≠ 34 → (∀ (d : Nat) (RX : MS → Unit → MS → Int32 → Prop) (fX : MS → Unit → Option (MS × Unit)), (∀ M m2 w2 rt, XZ m0 w0 K T nm Nk fof cvr lst g lo hi a cm q r Q sc m w m2 () w2 rt → PP RX (fX m2 ()) (kg_M_primary N (krc_M_behind N d) M w2 (I (lo : Nat)) rt)) → PP RX (bnd ((jrc_Cm_fun N (D + 1)).2.2.2.2.2.2.2.2.2.2.1 m (I (n : Nat)) (lsI lst)) fX) (km_M_primary N (krc_M_behind N d) w)) → PP RR (bnd ((jrc_Cm_fun N (D + 1)).2.2.2.2.2.2.2.2.2.2.1 m (I (n : Nat)) (lsI lst)) fc) ((kg_M_worked N (krc_M_behind N d) M).2 w (I (b0 : Nat))) := fun k14 k34 hp => by
    have n14 : K lo ≠ 14 := fun z => k14 (by
      show (m0.2.2.1 6 lo).toInt = 14
      rw [c.1.2 lo (by omega), z]; rfl)
    have n34 : K lo ≠ 34 := fun z => k34 (by
      show (m0.2.2.1 6 lo).toInt = 34
      rw [c.1.2 lo (by omega), z]; rfl)
    refine w2_prim c hR n14 n34 (fun M => ?_)
    unfold kb_M_worked_109
    cases d with
    | zero => exact pp_nr
    | succ d =>
    refine pp_rb ?_
    refine hp d (fun m z w r => PK (fun v q => RR m z v q) (br (decide ((w.1 67) = 0)) (bnd (fm_M_level N w) (fun u15 r15 => kb_M_worked_129 N (krc_M_behind N (d + 1)) (kg_M_worked N (krc_M_behind N (d + 1)) M) u15 (I (b0 : Nat)) r r15)) (kb_M_worked_129 N (krc_M_behind N (d + 1)) (kg_M_worked N (krc_M_behind N (d + 1)) M) w (I (b0 : Nat)) r 0))) fc (fun M1 m2 w2 rt hz => ?_)
    obtain ⟨Q2, sc2, hX⟩ := XZ_pr hz
    refine prim_end c hX hcl.1 ?_
    refine pp_rx (W0 := fun w r => br (decide ((w.1 67) = 0)) (bnd (fm_M_level N w) (fun u15 r15 => kb_M_worked_129 N (krc_M_behind N (d + 1)) (kg_M_worked N (krc_M_behind N (d + 1)) M) u15 (I (b0 : Nat)) r r15)) (kb_M_worked_129 N (krc_M_behind N (d + 1)) (kg_M_worked N (krc_M_behind N (d + 1)) M) w (I (b0 : Nat)) r 0)) ?_
    exact wkg_e (XRS_wp c hX) hX.1.2.2.1 (fun M2 => hh M2 N m2 w2 rt hz)
  by_cases z15 : A m0 16 n = 15
  · -- APPLIED
    have h4 := hE.2.2.2
    rcases h4 with h | h | h | h | h | h | h | h | h | h | h | h | h | h | h | h | h
    · have := h.1.1; have := h.1.2.1; omega
    · have := h.1; omega
    · have := h.1; omega
    · have := h.1; omega
    · have := h.1; omega
    · have := h.1; omega
    · have := h.1; omega
    · have := h.1; omega
    · have := h.1; omega
    · have := h.1; omega
    · have := h.1; omega
    · obtain ⟨-, -, x, mid, c1, s, k, m1, h18, hx, ⟨hc1, h17⟩, h19, hrw⟩ := h
      have b0 := xp_beg0 hx
      refine prim b0.1 b0.2.1 (fun d RX fX hX => ?_)
      exact x_app (n := n) (D := D) c cv I00 IH hC hR hq hn z15 h17 h18 h19 hx hrw (by omega) hxb hr4 hcl.2 htot hX
    · rcases h.1 with z | z <;> omega
    · have := h.1; omega
    · have := h.1; omega
    · have := h.1; omega
    · have := h.1; omega
  by_cases z1718 : A m0 16 n = 17 ∨ A m0 16 n = 18
  · -- a sign ahead of it
    have h4 := hE.2.2.2
    rcases h4 with h | h | h | h | h | h | h | h | h | h | h | h | h | h | h | h | h
    · have := h.1.1; have := h.1.2.1; omega
    · have := h.1; omega
    · have := h.1; omega
    · have := h.1; omega
    · have := h.1; omega
    · have := h.1; omega
    · have := h.1; omega
    · have := h.1; omega
    · have := h.1; omega
    · have := h.1; omega
    · have := h.1; omega
    · have := h.1; omega
    · obtain ⟨-, -, x, c1, h18, hx, hc1, e34, e14⟩ := h
      have hdx := xp_hd hx
      have klo : K lo = 14 ∧ A m0 16 n = 18 ∨ K lo = 34 ∧ A m0 16 n = 17 := by
        rcases z1718 with z | z
        · exact Or.inr ⟨kA c (by omega) (e34 z), z⟩
        · exact Or.inl ⟨kA c (by omega) (e14 z), z⟩
      refine pp_lb ?_
      have comp : ∀ B', (∀ D, PP (fun m z w r => PK (fun v q => RR v q w r) (fc m z)) (bnd ((jrc_Cm_fun N D).2.2.2.2.2.2.2.2.2.2.1 m (I (x : Nat)) (lsI false)) (fun u8 r8 => ck (inb (I (n : Nat)) 8016) (br (decide ((u8.2.2.1 16 n) = 18)) (jb_Cm_compound_72 N (jrc_Cm_fun N D) () u8 12) (jb_Cm_compound_72 N (jrc_Cm_fun N D) () u8 11)))) B') → PP (fun m z w r => PK (fun v q => RR v q w r) (fc m z)) ((jrc_Cm_fun N (D + 1)).2.2.2.2.2.2.2.2.2.2.1 m (I (n : Nat)) (lsI lst)) B' := fun B' hB => by
        show PP _ (jm_Cm_expression N (jrc_Cm_fun N D) m (I (n : Nat)) (lsI lst)) B'
        have e33 : ∀ D, PP (fun m z w r => PK (fun v q => RR v q w r) (fc m z)) (jb_Cm_compound_33 N (jrc_Cm_fun N D) () m (I (n : Nat))) B' := fun D => by
          unfold jb_Cm_compound_33
          rw [i_nt2 (show n ≤ 100000 by omega), tre fr (by decide) h18]
          exact l_ck (fun _ => hB D)
        rcases klo with ⟨-, z⟩ | ⟨-, z⟩
        · refine exd_18 hn (tre fr (by decide) z) (l_id ?_)
          cases D with
          | zero => exact pp_nl
          | succ D => exact cmd_18 hn (tre fr (by decide) z) (e33 D)
        · refine exd_17 hn (tre fr (by decide) z) (l_id ?_)
          cases D with
          | zero => exact pp_nl
          | succ D => exact cmd_17 hn (tre fr (by decide) z) (e33 D)
      refine comp _ (fun D => ?_)
      have k14 : K lo = 14 ∨ K lo = 34 := by rcases klo with ⟨z, -⟩ | ⟨z, -⟩ <;> omega
      refine w2_sign c hR rfl k14 (fun M u hp3 hX hQ h79 h80 => ?_)
      have q56 : qst Q 83 (Q 83 + 1) 56 = q := by rw [qst_no (by decide)]; exact hq
      have q83 : qst Q 83 (Q 83 + 1) 83 = Q 83 + 1 := qst_at
      refine IU D d M (o + 1) x (lo + 1) hi xa c1 q r b0 m u a cm (qst Q 83 (Q 83 + 1)) sc g false _ _ hx (by omega) hr4 hcl hC hX q56 (by omega) (by omega) (fun M2 M3 m2 w2 rt hz => ?_)
      obtain ⟨b2, cm2, Q2, sc2, ht⟩ := XZ_tr (lst := lst) hz (XTR_rf hC hX q56)
      have hC2 := ht.2.1
      have hR2 := ht.2.2.1.1
      have x83 : Q2 83 = Q 83 + 1 := by have := ht.2.2.2.2.2.2.1.2.2.2.2; rw [q83] at this; exact this
      have w83 : w2.1 83 = I ((Q 83 + 1 : Nat) : Int) := by have := (hR2.2 83 (by decide)).1; rw [x83] at this; exact this
      have kp := ht.2.2.2.2.2.2.1.1.2.1
      have e79 : w2.2.2.1 79 (Q 83) = 7 := by rw [kp 79 (Q 83) (by decide) (by show Q 83 < qst Q 83 (Q 83 + 1) 83; omega)]; exact h79
      have e80 : w2.2.2.1 80 (Q 83) = I (lo : Nat) := by rw [kp 80 (Q 83) (by decide) (by show Q 83 < qst Q 83 (Q 83 + 1) 83; omega)]; exact h80
      have gap : ∀ j, lo ≤ j → j < lo + 1 → K j ≠ 3 := fun j a b => by rw [show j = lo by omega]; omega
      refine l_ck (fun _ => ?_)
      have fin : ∀ t1 : Int32, ((if K lo = 14 then (7 : Int32) else 8) = 7 ∧ t1 = 12) ∨ ((if K lo = 14 then (7 : Int32) else 8) = 8 ∧ t1 = 11) → PP (fun m z w r => PK (fun v q => RR v q w r) (fc m z)) (jb_Cm_compound_72 N (jrc_Cm_fun N D) () m2 t1) (bnd (gg_M_reduce N M3 w2 (I (b0 : Nat)) (I (rkK (K hi) : Nat)) rt 1) (wkG N (krc_M_behind N d) M2 (I (b0 : Nat)) (rkK (K hi)))) := fun t1 ht1 => by
        unfold jb_Cm_compound_72
        refine l_put hC2.1.2.2.1.1 hC2.1.2.2.1.2.2 (fun ha => ?_)
        refine redd_7 (tok := lo) (XRS_wp c hR2).1 (by omega) hp3 w83 hb0 e79 e80 (rk6 k46) k14 (fun M' xx => ?_)
        have ht2 := XTR_I (k := 70) (x := xx) (XTR_83 ht rfl hQ (Nat.le_succ lo) gap) (by decide) (by decide)
        have nn := neg_n (RR := fun m z w r => PK (fun v q => RR v q w r) (fc m z)) (A' := some (ptc m2 b2 t1, ())) (F := fun u r => bnd (gg_M_reduce N M' u (I (b0 : Nat)) (I (rkK (K hi) : Nat)) r 1) (wkG N (krc_M_behind N d) M2 (I (b0 : Nat)) (rkK (K hi)))) (N := N) c ht2 hcl.2 (by omega) ha ht1 (fun v hz2 => pp_lx (hh M2 M' _ v _ hz2))
        exact nn
      rcases klo with ⟨k1, z⟩ | ⟨k1, z⟩
      · rw [tre (XCS_fr hC2) (by decide) z, show decide (I 18 = (18 : Int32)) = true from rfl, br_t]
        exact fin 12 (Or.inl ⟨by rw [if_pos k1], rfl⟩)
      · rw [tre (XCS_fr hC2) (by decide) z, show decide (I 17 = (18 : Int32)) = false from rfl, br_f]
        exact fin 11 (Or.inr ⟨by rw [if_neg (by omega)], rfl⟩)
    · have := h.1; omega
    · have := h.1; omega
    · have := h.1; omega
    · have := h.1; omega
  have hx0 := xp_0 hE z15 (fun z => z1718 (Or.inl z)) (fun z => z1718 (Or.inr z))
  have b0 := xp_beg0 hx0
  exact prim b0.1 b0.2.1 (fun d RX fX hX => I0 (D + 1) d o n lo hi xa xb q r m w a cm Q sc g lst RX fX hx0 hxb hr4 hcl.2 hC hR hq htot (fun m2 w2 rt hz => hX N m2 w2 rt hz))
end
