/-! expressions: ARGUMENTS, CALLS by name, both -/
set_option maxRecDepth 100000
section
variable {α β : Type} {m0 w0 m w m2 w2 m3 w3 v u mS wS : MS} {K nm Nk W W2 : Nat → Nat} {N T D d o a a0 b c cm cm0 cm2 cm3 q q0 r s lo lo0 mid hi i j f f2 n k kk p σ tk x xa xb M : Nat} {Q Q0 Q2 Q3 Q4 : Nat → Nat} {sc sc0 sc2 sc3 t : SCT} {e : List Nat × List Nat × Nat} {g lst l2 : Bool} {L L1 L2 : List Nat} {idc fof cvr : Int → Int → Int} {C : Nat → Int} {P R : Nat → Nat → Int} {J : Nat → Int64} {H O : List Nat} {y : Option (Nat × Nat × Nat)} {z : Unit} {rt v1 v2 v3 v5 : Int32} {fc : MS → Unit → Option (MS × α)} {RR : MS → α → MS → Int32 → Prop} {RU : MS → α → MS → β → Prop} {A' : Option (MS × α)} {l : List Int32}
theorem svK_0 : ∀ k, k < 46 → 20 ≤ k → k ≤ 44 → k ≠ 20 → ¬ (I (svK k : Nat) = (0 : Int32)) := by decide +kernel
/-- whether ( stands there -/
theorem r_opn {ix ix2 : Int32} {X Y : Option (MS × β)} (h : TWK w K T) (hp : p ≤ T) (hx : K p = 20 → PP RU A' X) (hy : K p ≠ 20 → PP RU A' Y) : PP RU A' (ck (inb ix (ln 6)) (br (decide (w.2.2.1 6 p = 6)) (ck (inb ix2 (ln 7)) (br (decide (w.2.2.1 7 p = 0)) X Y)) Y)) := by
  have k46 := h.1.k46 hp
  refine r_ck (fun _ => ?_)
  rw [h.2.1 p hp]
  by_cases z : 20 ≤ K p ∧ K p ≤ 44
  · have hl : p < T := h.1.lt hp (by omega) (by omega)
    rw [decide_eq_true ((srK_6 _ k46).mpr z), br_t, h.2.2 p hl (by omega)]
    refine r_ck (fun _ => ?_)
    by_cases y : K p = 20
    · rw [y, show decide (I (svK 20 : Nat) = (0 : Int32)) = true from rfl, br_t]
      exact hx y
    · rw [decide_eq_false (svK_0 _ k46 z.1 z.2 y), br_f]
      exact hy y
  · rw [decide_eq_false (fun y => z ((srK_6 _ k46).mp y)), br_f]
    exact hy (by omega)
/-- ARGUMENTS -/
theorem args_x {F : MS → Unit → Option (MS × β)} (c : CTZ m0 w0 K T nm Nk) (IH : HXE N m0 w0 K T nm Nk fof cvr f) (hxb : xb ≤ 8015) (hr4 : r ≤ 400) (hk6 : k ≤ 6) (hE : ORcK m0 1 26 (XPcK m0 f o 3) k n (lo + 1) (hi - 1) xa xb q r) (k20 : K lo = 20) (k21 : K (hi - 1) = 21) (hlh : lo + 2 ≤ hi) (hiT : hi ≤ T) (htot : tot sc0 + (hi - lo0) ≤ 4000 ∧ sc0.length ≤ o + 1) (ht : XTR m0 w0 K T nm Nk fof cvr lst g [] lo0 lo a0 a cm0 cm q0 q Q0 Q sc0 sc mS wS m w)
    (hend : ∀ m2 w2 b cm2 Q2 sc2, XTR m0 w0 K T nm Nk fof cvr lst g [] lo0 hi a0 b cm0 cm2 q0 r Q0 Q2 sc0 sc2 mS wS m2 w2 → w2.1 84 = I (k : Nat) → PP RU (fc m2 ()) (F w2 ())) :
    PP RU (bnd ((jrc_Cm_fun N D).2.2.2.2.2.2.2.2.2.1 m (I (n : Nat))) fc) (bnd ((krc_M_behind N d).2.2.2.2.2.2.2.2.2.1 w) F) := by
  cases D with
  | zero => exact pp_nl
  | succ D =>
  cases d with
  | zero => exact pp_nr
  | succ d =>
  show PP RU (bnd (jg_Cm_row N (jrc_Cm_fun N D) N m (I (n : Nat))) fc) (bnd (kb_M_arguments_0 N (krc_M_behind N d) (kg_M_arguments N (krc_M_behind N d) N) w) F)
  unfold kb_M_arguments_0
  have hR := ht.2.2.1.1
  have l1 := ht.1
  rw [bnd_as2]
  refine need_k (XRS_wp c hR) hR.1.2.2.1 (k := 20) (by decide) rfl (fun _ => ?_)
  have hA := XTR_ad ht (show lo < T by omega) (by omega)
  have hRA := hA.2.2.1.1
  have hwA := XRS_wp c hRA
  rw [decide_eq_true hRA.1.2.2.1, br_t, isS_e (k := 21) (s := 1) hwA (by decide) rfl, bnd_s]
  have e73 : ∀ (m2 w2 : MS) (b cm2 : Nat) (Q2 : Nat → Nat) (sc2 : SCT) (G : MS → Int32 → Int32 → Option (MS × Unit)), XTR m0 w0 K T nm Nk fof cvr lst g [] lo0 (hi - 1) a0 b cm0 cm2 q0 r Q0 Q2 sc0 sc2 mS wS m2 w2 → PP RU (fc m2 ()) (bnd (kb_M_arguments_73 N (krc_M_behind N d) G w2 (I (k : Nat))) F) := fun m2 w2 b cm2 Q2 sc2 G h => by
    have hR2 := h.2.2.1.1
    unfold kb_M_arguments_73
    rw [bnd_as2]
    refine need_k (XRS_wp c hR2) hR2.1.2.2.1 (k := 21) (by decide) rfl (fun _ => ?_)
    rw [lt_e, bnd_s]
    have h2 := XTR_ad h (show hi - 1 < T by omega) (by omega)
    rw [show hi - 1 + 1 = hi by omega] at h2
    exact hend m2 _ b cm2 Q2 sc2 (XTR_I (k := 84) (x := I (k : Nat)) h2 (by decide) (by decide)) upI_at
  rcases hE with ⟨rfl, rfl, h1, h2, h3⟩ | ⟨h1, hE⟩
  · subst h3
    rw [if_pos (by rw [h1]; exact k21), show decide ((1 : Int32) = 0) = false from rfl, br_f]
    rw [h1] at hA
    exact row_0 (e73 m (adv w lo) a cm Q sc _ hA)
  · have hd := RW_hdK (XP_bdK _ _ _) hE
    have k21n : K (lo + 1) ≠ 21 := fun z => by
      have b := (BG_ne (rw_beg hE)).1
      have y : (m0.2.2.1 6 (lo + 1)).toInt = 21 := by
        rw [c.1.2 (lo + 1) (by omega), z]
        rfl
      exact b y
    rw [if_neg k21n, show decide ((0 : Int32) = 0) = true from rfl, br_t]
    refine arg_x (xb := xb) (hi := hi - 1) (kk := k) c IH hxb hr4 ⟨⟨by rw [k21]; exact NEC_k.2.2.2.1, by omega⟩, by omega⟩ (by omega) (fun M2 m2 w2 b cm2 Q2 sc2 ht2 => ?_) k n (lo + 1) xa q N N 0 m (adv w lo) a cm Q sc hE hA (Nat.zero_add k)
    cases M2 with
    | zero => exact pp_nr
    | succ M2 =>
      show PP RU _ (bnd (kb_M_arguments_24 N (krc_M_behind N d) (kg_M_arguments N (krc_M_behind N d) M2) w2 (I (k : Nat)) 0) F)
      unfold kb_M_arguments_24
      rw [show decide ((0 : Int32) = 0) = true from rfl, br_t]
      exact e73 m2 w2 b cm2 Q2 sc2 _ ht2
theorem pk_ln (cv : CTV m0 w0 K T) (fr : FRC m0 m) (hl : lo < T) : (m.2.2.1 8 lo).toInt = A w0 8 lo := by
  rw [fr.2 8 (by decide)]
  exact congrArg Int32.toInt (cv lo hl).1
/-- the words of a CALL by name, its node -/
theorem call_w {F : MS → Int32 → Option (MS × Int32)} {S : SF_Cm_fun} {fc : MS → Unit → Option (MS × Unit)} {RR : MS → Unit → MS → Int32 → Prop} (c : CTZ m0 w0 K T nm Nk) (cv : CTV m0 w0 K T) (cx : CVX N m0 w0 K T idc fof cvr) (k2 : K lo = 2) (hlo : lo < mid) (hkk : k ≤ 6) (ht : XTR m0 w0 K T nm Nk fof cvr lst g [] lo mid a b cm cm2 q r Q Q2 sc sc2 m w m2 w2) (hmT : mid ≤ T) (h84 : w2.1 84 = I (k : Nat)) (hid : idc (A w0 7 lo) ((k : Nat) : Int) = -1 → fof (A w0 7 lo) ((k : Nat) : Int) ≠ -1 ∧ g = false)
    (hh : ∀ m3 v, XZ m0 w0 K T nm Nk fof cvr lst g lo mid a cm q r Q sc m w m3 () v (I (Q2 32 : Nat)) → PP RR (fc m3 ()) (F v (I (Q2 32 : Nat)))) :
    PP RR (bnd (br (decide (I (idc (A w0 7 lo) ((k : Nat) : Int)) = (-1))) (br (decide (lsI lst = 0)) (jb_Cm_call_198 N S () m2 (I (lo : Nat)) (I (k : Nat)) (I (fof (A w0 7 lo) ((k : Nat) : Int))) 25) (jb_Cm_call_198 N S () m2 (I (lo : Nat)) (I (k : Nat)) (I (fof (A w0 7 lo) ((k : Nat) : Int))) 26)) (br (decide (I (idc (A w0 7 lo) ((k : Nat) : Int)) = 2)) (jb_Cm_call_147 N S () m2 (I (idc (A w0 7 lo) ((k : Nat) : Int)))) (br (decide (I (idc (A w0 7 lo) ((k : Nat) : Int)) = 3)) (jb_Cm_call_147 N S () m2 (I (idc (A w0 7 lo) ((k : Nat) : Int)))) (br (decide (I (idc (A w0 7 lo) ((k : Nat) : Int)) = 4)) (jb_Cm_call_147 N S () m2 (I (idc (A w0 7 lo) ((k : Nat) : Int)))) (br (decide (I (idc (A w0 7 lo) ((k : Nat) : Int)) = 29)) (jb_Cm_call_147 N S () m2 (I (idc (A w0 7 lo) ((k : Nat) : Int)))) (br (decide (I (idc (A w0 7 lo) ((k : Nat) : Int)) = 15)) (jb_Cm_call_147 N S () m2 (I (idc (A w0 7 lo) ((k : Nat) : Int)))) (jb_Cm_call_152 N S () m2 (I (idc (A w0 7 lo) ((k : Nat) : Int))) 0))))))) fc) (bnd (fm_M_node N w2 12 (I (lo : Nat))) (fun u10 r10 => ck (inb (I (lo : Nat)) (ln 7)) (ck (inb r10 (ln 25)) (lt (upA u10 25 (upd (u10.2.2.1 25) r10.toNatClampNeg (u10.2.2.1 7 (I (lo : Nat)).toNatClampNeg))) (fun w11 => ck (inb r10 (ln 26)) (lt (upA w11 26 (upd (w11.2.2.1 26) r10.toNatClampNeg (w11.1 84))) (fun w12 => br (decide ((w12.1 73) = 0)) (ck (isK 27 4) (ck (inb r10 (ln 27)) (lt (upA w12 27 (upd (w12.2.2.1 27) r10.toNatClampNeg 0)) (fun w7 => F w7 r10)))) (ck (isK 27 4) (ck (inb r10 (ln 27)) (lt (upA w12 27 (upd (w12.2.2.1 27) r10.toNatClampNeg 1)) (fun w7 => F w7 r10))))))))))) := by
  have hC := ht.2.1
  have hR := ht.2.2.1.1
  have t4 := c.2.1.1.1
  have l1 := ht.1
  obtain ⟨cf, cp⟩ := cx.2.2 (A w0 7 lo) ((k : Nat) : Int) ⟨lo, by omega, k2, rfl⟩
  obtain ⟨ci, cd, ce⟩ := cp (by omega) (by omega)
  obtain ⟨n1, n2⟩ := XRS_q hR
  -- the node
  have node : ∀ (m3 : MS) (l : List Int32), m3 = ptcs m2 b l → 1 ≤ l.length → XCS m0 nm m3 (b + l.length) cm2 sc2 g → ((idc (A w0 7 lo) ((k : Nat) : Int) ≠ -1 ∧ l = [if idc (A w0 7 lo) ((k : Nat) : Int) = 2 ∨ idc (A w0 7 lo) ((k : Nat) : Int) = 3 ∨ idc (A w0 7 lo) ((k : Nat) : Int) = 4 ∨ idc (A w0 7 lo) ((k : Nat) : Int) = 29 ∨ idc (A w0 7 lo) ((k : Nat) : Int) = 15 then 40 else 39, I (idc (A w0 7 lo) ((k : Nat) : Int))]) ∨ (idc (A w0 7 lo) ((k : Nat) : Int) = -1 ∧ ∃ xl : Int32, xl.toInt = A w0 8 lo ∧ l = [if lst then 26 else 25, I (fof (A w0 7 lo) ((k : Nat) : Int)), I (k : Nat), xl])) → PP RR (fc m3 ()) (bnd (fm_M_node N w2 12 (I (lo : Nat))) (fun u10 r10 => ck (inb (I (lo : Nat)) (ln 7)) (ck (inb r10 (ln 25)) (lt (upA u10 25 (upd (u10.2.2.1 25) r10.toNatClampNeg (u10.2.2.1 7 (I (lo : Nat)).toNatClampNeg))) (fun w11 => ck (inb r10 (ln 26)) (lt (upA w11 26 (upd (w11.2.2.1 26) r10.toNatClampNeg (w11.1 84))) (fun w12 => br (decide ((w12.1 73) = 0)) (ck (isK 27 4) (ck (inb r10 (ln 27)) (lt (upA w12 27 (upd (w12.2.2.1 27) r10.toNatClampNeg 0)) (fun w7 => F w7 r10)))) (ck (isK 27 4) (ck (inb r10 (ln 27)) (lt (upA w12 27 (upd (w12.2.2.1 27) r10.toNatClampNeg 1)) (fun w7 => F w7 r10))))))))))) := fun m3 l em hl1 hm3 hll => by
    refine r_nod n1 n2 rfl (nsh (by omega)) (fun h16 => ?_)
    have d0 : NOD w2 (nwD w2 (Q2 32) 12 (I (lo : Nat))) (Q2 32) := NOD_0 n1
    obtain ⟨d1, d2, d3, d4, d5, d6, d7, d8⟩ := nwD_at (w := w2) (i := Q2 32) (k := 12) (t := I (lo : Nat))
    have d9 : (nwD w2 (Q2 32) 12 (I (lo : Nat))).1 69 = I (mid : Nat) := by rw [nwD_i (by decide)]; exact hR.1.2.1.1
    have d84 : (nwD w2 (Q2 32) 12 (I (lo : Nat))).1 84 = I (k : Nat) := by rw [nwD_i (by decide)]; exact h84
    have d10 : (nwD w2 (Q2 32) 12 (I (lo : Nat))).2.2.1 7 = w0.2.2.1 7 := by rw [nwD_r (by decide)]; exact XRS_7 hR
    generalize nwD w2 (Q2 32) 12 (I (lo : Nat)) = U at d0 d1 d2 d3 d4 d5 d6 d7 d8 d9 d10 d84
    rw [i_nt2 (p := Q2 32) (by omega), i_nt (p := lo) (by omega), d10]
    refine r_ck (fun _ => r_ck (fun _ => r_lt (r_ck (fun _ => r_lt ?_))))
    have e84 : (upA U 25 (upd (U.2.2.1 25) (Q2 32) (w0.2.2.1 7 lo))).1 84 = I (k : Nat) := d84
    rw [e84]
    have hN : NOD w2 (upA (upA U 25 (upd (U.2.2.1 25) (Q2 32) (w0.2.2.1 7 lo))) 26 (upd ((upA U 25 (upd (U.2.2.1 25) (Q2 32) (w0.2.2.1 7 lo))).2.2.1 26) (Q2 32) (I (k : Nat)))) (Q2 32) := NOD_A (NOD_A d0 (by decide)) (by decide)
    have rr : ∀ k', k' ≠ 25 → k' ≠ 26 → (upA (upA U 25 (upd (U.2.2.1 25) (Q2 32) (w0.2.2.1 7 lo))) 26 (upd ((upA U 25 (upd (U.2.2.1 25) (Q2 32) (w0.2.2.1 7 lo))).2.2.1 26) (Q2 32) (I (k : Nat)))).2.2.1 k' = U.2.2.1 k' := fun k' h1 h2 => by rw [upA_no h2, upA_no h1]
    have r25 : (upA (upA U 25 (upd (U.2.2.1 25) (Q2 32) (w0.2.2.1 7 lo))) 26 (upd ((upA U 25 (upd (U.2.2.1 25) (Q2 32) (w0.2.2.1 7 lo))).2.2.1 26) (Q2 32) (I (k : Nat)))).2.2.1 25 (Q2 32) = w0.2.2.1 7 lo := by rw [upA_no (by decide), upA_at, upd_at]
    have r26 : (upA (upA U 25 (upd (U.2.2.1 25) (Q2 32) (w0.2.2.1 7 lo))) 26 (upd ((upA U 25 (upd (U.2.2.1 25) (Q2 32) (w0.2.2.1 7 lo))).2.2.1 26) (Q2 32) (I (k : Nat)))).2.2.1 26 (Q2 32) = I (k : Nat) := by rw [upA_at, upd_at]
    have r69 : (upA (upA U 25 (upd (U.2.2.1 25) (Q2 32) (w0.2.2.1 7 lo))) 26 (upd ((upA U 25 (upd (U.2.2.1 25) (Q2 32) (w0.2.2.1 7 lo))).2.2.1 26) (Q2 32) (I (k : Nat)))).1 69 = I (mid : Nat) := d9
    generalize upA (upA U 25 (upd (U.2.2.1 25) (Q2 32) (w0.2.2.1 7 lo))) 26 (upd ((upA U 25 (upd (U.2.2.1 25) (Q2 32) (w0.2.2.1 7 lo))).2.2.1 26) (Q2 32) (I (k : Nat))) = V at hN rr r25 r26 r69
    have fin : ∀ z : Int32, PP RR (fc m3 ()) (ck (isK 27 4) (ck (inb (I (Q2 32 : Nat)) (ln 27)) (lt (upA V 27 (upd (V.2.2.1 27) (Q2 32) z)) (fun w7 => F w7 (I (Q2 32 : Nat)))))) := fun z => by
      refine r_ck (fun _ => r_ck (fun _ => r_lt ?_))
      have hN2 : NOD w2 (upA V 27 (upd (V.2.2.1 27) (Q2 32) z)) (Q2 32) := NOD_A hN (by decide)
      have vr : ∀ k', k' ≠ 27 → A (upA V 27 (upd (V.2.2.1 27) (Q2 32) z)) k' (Q2 32) = (V.2.2.1 k' (Q2 32)).toInt := fun k' h1 => by
        show ((upA V 27 _).2.2.1 k' (Q2 32)).toInt = _
        rw [upA_no h1]
      have v69 : (upA V 27 (upd (V.2.2.1 27) (Q2 32) z)).1 69 = I (mid : Nat) := r69
      generalize upA V 27 (upd (V.2.2.1 27) (Q2 32) z) = v at hN2 vr v69
      have a23 : A v 23 (Q2 32) = 12 := by rw [vr 23 (by decide), rr 23 (by decide) (by decide), d1]; rfl
      have a24 : A v 24 (Q2 32) = ((lo : Nat) : Int) := by rw [vr 24 (by decide), rr 24 (by decide) (by decide), d2]; exact I_ti (by omega) (by omega)
      have a25 : A v 25 (Q2 32) = A w0 7 lo := by rw [vr 25 (by decide), r25]; rfl
      have a26 : A v 26 (Q2 32) = ((k : Nat) : Int) := by rw [vr 26 (by decide), r26]; exact I_ti (by omega) (by omega)
      have a28 : A v 28 (Q2 32) = -1 := by rw [vr 28 (by decide), rr 28 (by decide) (by decide), d6]; rfl
      have a30 : A v 30 (Q2 32) = 0 := by rw [vr 30 (by decide), rr 30 (by decide) (by decide), d8]; rfl
      have gx : XFC m2 m3 b r r (sc2.length - 1) := by rw [em]; exact XFC_ps XFC_rf (Nat.le_refl _)
      have g42 : m3.2.2.1 42 = m2.2.2.1 42 := by rw [em]; exact ptcs_r (by decide)
      refine hh m3 v (XZ_n (L := [Q2 32]) (c := b + l.length) ht (XT_nod hC hR ht.2.2.1.2 ⟨Nat.le_refl _, hmT⟩ (fun j j1 j2 => by omega) (by omega) hm3 gx g42 hN2 rfl h16 v69 (fun n hn => List.mem_singleton.mp hn) (fun C P R J H fi hx => ⟨fun u u1 u2 => by omega, fun y hy hr => ?_⟩)) (by omega) hlo a28 (Or.inr ⟨rfl, Or.inl a23, a30⟩))
      have gc : AGC C (ptcs m2 b l) b (b + l.length) := by have := fi.1; rw [em] at this; exact this
      have ro : ∀ k, 23 ≤ k ∧ k ≤ 31 → k ≠ 27 ∧ k ≠ 29 ∧ k ≠ 30 → R k (Q2 32) = A v k (Q2 32) := fun k k1 k2 => FIN_R fi k1 k2 ⟨Nat.le_refl _, by rw [qst_at]; omega⟩
      have R23 := (ro 23 (by decide) (by decide)).trans a23
      have R24 := (ro 24 (by decide) (by decide)).trans a24
      have R25 := (ro 25 (by decide) (by decide)).trans a25
      have R26 := (ro 26 (by decide) (by decide)).trans a26
      have R27 := (fi.2.2.2.2 (Q2 32) (Nat.le_refl _) (by rw [qst_at]; omega)).1 R23
      rw [R25, R26] at R27
      have R30 := fi.2.2.2.1.2.2.1 (Q2 32) (Nat.le_refl _) (by rw [qst_at]; omega)
      rw [a30] at R30
      have gr := fi.2.2.1
      obtain ⟨b1, b2⟩ := XB c.2.2.1 hC hR hx h16
      obtain ⟨d, hd⟩ := hr
      rw [qst_at] at hd
      rcases hll with ⟨z1, rfl⟩ | ⟨z1, xl, z2, rfl⟩
      · have c0 := C_0 gc (show b < b + 2 by omega)
        have c1 : C (b + 1) = (I (idc (A w0 7 lo) ((k : Nat) : Int))).toInt := C_at (k := 1) gc rfl (show b + 1 < b + 2 by omega)
        obtain ⟨w1, w2'⟩ := cd z1
        refine cr_1 b1 b2 ⟨d, Or.inr (Or.inr (Or.inr (Or.inr (Or.inr (Or.inr (Or.inr (Or.inr (Or.inr (Or.inr (Or.inr (Or.inl ⟨R23, by rw [R27]; exact w1, ?_, hd⟩)))))))))))⟩
        rw [R27, c0, c1, I_ti (by omega) (by omega)]
        have : (if idc (A w0 7 lo) ((k : Nat) : Int) = 2 ∨ idc (A w0 7 lo) ((k : Nat) : Int) = 3 ∨ idc (A w0 7 lo) ((k : Nat) : Int) = 4 ∨ idc (A w0 7 lo) ((k : Nat) : Int) = 29 ∨ idc (A w0 7 lo) ((k : Nat) : Int) = 15 then (40 : Int32) else 39).toInt = (if idc (A w0 7 lo) ((k : Nat) : Int) = 2 ∨ idc (A w0 7 lo) ((k : Nat) : Int) = 3 ∨ idc (A w0 7 lo) ((k : Nat) : Int) = 4 ∨ idc (A w0 7 lo) ((k : Nat) : Int) = 29 ∨ idc (A w0 7 lo) ((k : Nat) : Int) = 15 then (40 : Int) else 39) := by split <;> rfl
        rw [this]
        exact w2'
      · obtain ⟨w1, w2'⟩ := hid z1
        have w3' := ce z1 w1
        have hyn : y = none := hy.mpr w2'
        have c0 := C_0 gc (show b < b + 4 by omega)
        have c1 : C (b + 1) = (I (fof (A w0 7 lo) ((k : Nat) : Int))).toInt := C_at (k := 1) gc rfl (show b + 1 < b + 4 by omega)
        have c2 : C (b + 2) = (I (k : Nat)).toInt := C_at (k := 2) gc rfl (show b + 2 < b + 4 by omega)
        have c3 : C (b + 3) = xl.toInt := C_at (k := 3) gc rfl (show b + 3 < b + 4 by omega)
        have cb := hm3.1.2.2.1.2.2
        have cb : b + 4 ≤ 23990 := cb
        refine cr_1 b1 b2 ⟨d, Or.inr (Or.inr (Or.inr (Or.inr (Or.inr (Or.inr (Or.inr (Or.inr (Or.inr (Or.inr (Or.inr (Or.inr (Or.inl ⟨R23, hyn, ?_, ?_, ?_, ⟨lo, R24, ?_⟩, ?_⟩))))))))))))⟩
        · rw [R27, w3']; omega
        · rw [R27, w3', c1, I_ti (by omega) (by omega)]
        · rw [c2, R26, I_ti (by omega) (by omega)]
        · rw [c3, z2, gr 8 lo (by decide)]
        · cases lst with
          | true =>
            refine Or.inl ⟨by rw [R30, if_pos ⟨rfl, List.mem_singleton.mpr rfl⟩], c0, by omega⟩
          | false =>
            refine Or.inr ⟨by rw [R30, if_neg (fun z => by cases z.1)], c0, hd⟩
    exact r_br (fun _ => fin 0) (fun _ => fin 1)
  -- the words
  have two : ∀ t1 : Int32, idc (A w0 7 lo) ((k : Nat) : Int) ≠ -1 → t1 = (if idc (A w0 7 lo) ((k : Nat) : Int) = 2 ∨ idc (A w0 7 lo) ((k : Nat) : Int) = 3 ∨ idc (A w0 7 lo) ((k : Nat) : Int) = 4 ∨ idc (A w0 7 lo) ((k : Nat) : Int) = 29 ∨ idc (A w0 7 lo) ((k : Nat) : Int) = 15 then 40 else 39) → ∀ B, (∀ (m3 : MS) (l : List Int32), m3 = ptcs m2 b l → 1 ≤ l.length → XCS m0 nm m3 (b + l.length) cm2 sc2 g → l = [t1, I (idc (A w0 7 lo) ((k : Nat) : Int))] → PP RR (fc m3 ()) B) → PP RR (bnd (jb_Cm_call_170 N S () m2 (I (idc (A w0 7 lo) ((k : Nat) : Int))) t1) fc) B := fun t1 z1 z2 B hB => by
    unfold jb_Cm_call_170
    rw [bnd_as2]
    refine l_put hC.1.2.2.1.1 hC.1.2.2.1.2.2 (fun ha => ?_)
    have h1 := XCS_put (x := t1) hC ha
    rw [bnd_as2]
    refine l_put h1.1.2.2.1.1 h1.1.2.2.1.2.2 (fun ha1 => ?_)
    have h2 := XCS_put (x := I (idc (A w0 7 lo) ((k : Nat) : Int))) h1 ha1
    rw [bnd_s]
    exact hB _ [t1, I (idc (A w0 7 lo) ((k : Nat) : Int))] rfl (Nat.succ_le_succ (Nat.zero_le _)) h2 rfl
  have four : ∀ t1 : Int32, idc (A w0 7 lo) ((k : Nat) : Int) = -1 → t1 = (if lst then 26 else 25) → ∀ B, (∀ (m3 : MS) (l : List Int32), m3 = ptcs m2 b l → 1 ≤ l.length → XCS m0 nm m3 (b + l.length) cm2 sc2 g → (∃ xl : Int32, xl.toInt = A w0 8 lo ∧ l = [if lst then 26 else 25, I (fof (A w0 7 lo) ((k : Nat) : Int)), I (k : Nat), xl]) → PP RR (fc m3 ()) B) → PP RR (bnd (jb_Cm_call_198 N S () m2 (I (lo : Nat)) (I (k : Nat)) (I (fof (A w0 7 lo) ((k : Nat) : Int))) t1) fc) B := fun t1 z1 z2 B hB => by
    unfold jb_Cm_call_198
    rw [bnd_as2]
    refine l_put hC.1.2.2.1.1 hC.1.2.2.1.2.2 (fun ha => ?_)
    have h1 := XCS_put (x := t1) hC ha
    rw [bnd_as2]
    refine l_put h1.1.2.2.1.1 h1.1.2.2.1.2.2 (fun ha1 => ?_)
    have h2 := XCS_put (x := I (fof (A w0 7 lo) ((k : Nat) : Int))) h1 ha1
    rw [bnd_as2]
    refine l_put h2.1.2.2.1.1 h2.1.2.2.1.2.2 (fun ha2 => ?_)
    have h3 := XCS_put (x := I (k : Nat)) h2 ha2
    rw [bnd_ck]
    refine l_ck (fun _ => ?_)
    have el := pk_ln cv (XCS_fr h3) (show lo < T by omega)
    rw [i_nt (p := lo) (by omega)]
    generalize ((ptc (ptc (ptc m2 b t1) (b + 1) (I (fof (A w0 7 lo) ((k : Nat) : Int)))) (b + 1 + 1) (I (k : Nat))).2.2.1 8 lo) = xl at el
    rw [bnd_as2]
    refine l_put h3.1.2.2.1.1 h3.1.2.2.1.2.2 (fun ha3 => ?_)
    have h4 := XCS_put (x := xl) h3 ha3
    rw [bnd_s]
    exact hB _ [t1, I (fof (A w0 7 lo) ((k : Nat) : Int)), I (k : Nat), xl] rfl (Nat.succ_le_succ (Nat.zero_le _)) h4 ⟨xl, el, by rw [z2]⟩
  have idn : ∀ j : Int, (0 ≤ j ∧ j < 100) → decide (I (idc (A w0 7 lo) ((k : Nat) : Int)) = I j) = decide (idc (A w0 7 lo) ((k : Nat) : Int) = j) := fun j hj => decide_eq_decide.mpr (I_eq (by omega) (by omega) (by omega) (by omega))
  have id1 : decide (I (idc (A w0 7 lo) ((k : Nat) : Int)) = (-1 : Int32)) = decide (idc (A w0 7 lo) ((k : Nat) : Int) = -1) := decide_eq_decide.mpr (I_eq (y := -1) (by omega) (by omega) (by decide) (by decide))
  rw [id1]
  by_cases z : idc (A w0 7 lo) ((k : Nat) : Int) = -1
  · rw [decide_eq_true z, br_t]
    cases lst with
    | false =>
      rw [show decide (lsI false = 0) = true from rfl, br_t]
      exact four 25 z rfl _ (fun m3 l e1 e2 e3 e4 => node m3 l e1 e2 e3 (Or.inr ⟨z, e4⟩))
    | true =>
      rw [show decide (lsI true = 0) = false from rfl, br_f]
      exact four 26 z rfl _ (fun m3 l e1 e2 e3 e4 => node m3 l e1 e2 e3 (Or.inr ⟨z, e4⟩))
  rw [decide_eq_false z, br_f]
  have e40 : idc (A w0 7 lo) ((k : Nat) : Int) = 2 ∨ idc (A w0 7 lo) ((k : Nat) : Int) = 3 ∨ idc (A w0 7 lo) ((k : Nat) : Int) = 4 ∨ idc (A w0 7 lo) ((k : Nat) : Int) = 29 ∨ idc (A w0 7 lo) ((k : Nat) : Int) = 15 → PP RR (bnd (jb_Cm_call_147 N S () m2 (I (idc (A w0 7 lo) ((k : Nat) : Int)))) fc) _ := fun y => by
    unfold jb_Cm_call_147 jb_Cm_call_152
    rw [show decide ((1 : Int32) = 0) = false from rfl, br_f]
    exact two 40 z (by rw [if_pos y]) _ (fun m3 l e1 e2 e3 e4 => node m3 l e1 e2 e3 (Or.inl ⟨z, by rw [e4, if_pos y]⟩))
  rw [show (2 : Int32) = I 2 from rfl, show (3 : Int32) = I 3 from rfl, show (4 : Int32) = I 4 from rfl, show (29 : Int32) = I 29 from rfl, show (15 : Int32) = I 15 from rfl, idn 2 (by decide), idn 3 (by decide), idn 4 (by decide), idn 29 (by decide), idn 15 (by decide)]
  by_cases y2 : idc (A w0 7 lo) ((k : Nat) : Int) = 2
  · rw [decide_eq_true y2, br_t]; exact e40 (by omega)
  rw [decide_eq_false y2, br_f]
  by_cases y3 : idc (A w0 7 lo) ((k : Nat) : Int) = 3
  · rw [decide_eq_true y3, br_t]; exact e40 (by omega)
  rw [decide_eq_false y3, br_f]
  by_cases y4 : idc (A w0 7 lo) ((k : Nat) : Int) = 4
  · rw [decide_eq_true y4, br_t]; exact e40 (by omega)
  rw [decide_eq_false y4, br_f]
  by_cases y29 : idc (A w0 7 lo) ((k : Nat) : Int) = 29
  · rw [decide_eq_true y29, br_t]; exact e40 (by omega)
  rw [decide_eq_false y29, br_f]
  by_cases y15 : idc (A w0 7 lo) ((k : Nat) : Int) = 15
  · rw [decide_eq_true y15, br_t]; exact e40 (by omega)
  rw [decide_eq_false y15, br_f]
  unfold jb_Cm_call_152
  rw [show decide ((0 : Int32) = 0) = true from rfl, br_t]
  have no : ¬ (idc (A w0 7 lo) ((k : Nat) : Int) = 2 ∨ idc (A w0 7 lo) ((k : Nat) : Int) = 3 ∨ idc (A w0 7 lo) ((k : Nat) : Int) = 4 ∨ idc (A w0 7 lo) ((k : Nat) : Int) = 29 ∨ idc (A w0 7 lo) ((k : Nat) : Int) = 15) := by omega
  exact two 39 z (by rw [if_neg no]) _ (fun m3 l e1 e2 e3 e4 => node m3 l e1 e2 e3 (Or.inl ⟨z, by rw [e4, if_neg no]⟩))
end
