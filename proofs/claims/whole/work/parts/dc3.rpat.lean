/-! a PATTERN that is read as an E, here alone: all -/
set_option maxRecDepth 100000
/-- worked() over a PATTERN's tokens, as deep as f -/
def HRW (N : Nat) (m0 w0 : MS) (K : Nat → Nat) (T f : Nat) : Prop := ∀ (d n lo hi xa xb q r : Nat) (w : MS) (Q : Nat → Nat) (sc : SCT), PAcK m0 f n lo hi xa xb q r → (K hi ≠ 20 ∧ hi ≤ T ∧ rkK (K hi) = 0) → XRS w0 T w lo Q sc → PK (fun v _ => RUX w0 T Q sc w hi v) (km_M_worked N (krc_M_behind N d) w)
/-- expression() -/
def HRE (N : Nat) (m0 w0 : MS) (K : Nat → Nat) (T f : Nat) : Prop := ∀ (d n lo hi xa xb q r : Nat) (w : MS) (Q : Nat → Nat) (sc : SCT), PAcK m0 f n lo hi xa xb q r → (NEC (K hi) ∧ hi ≤ T) → XRS w0 T w lo Q sc → PK (fun v _ => RUX w0 T Q sc w hi v) ((krc_M_behind N d).2.2.2.2.2.2.2.2.2.2.2.2.2.1 w)
section
variable {α β : Type} {m0 w0 m w m2 w2 m3 w3 v u w1 wS : MS} {K nm Nk W W2 : Nat → Nat} {N T D d o b c q r s lo mid hi i j f f2 n k kk p p2 σ tk x xa xb xc M M1 M2 y : Nat} {Q Q0 Q2 Q3 : Nat → Nat} {sc sc0 sc2 sc3 t t2 : SCT} {e e2 : List Nat × List Nat × Nat} {g lst own : Bool} {rt v1 v2 v3 v4 v5 t0 xx : Int32} {RR : MS → α → MS → Int32 → Prop} {A' : Option (MS × α)} {S : SG_M_behind} {G : MS → Int32 → Int32 → Int32 → Int32 → Int32 → Int32 → Option (MS × Int32)}
/-- what is saved is forgotten -/
theorem RUX_mk (hz : RUX w0 T (QSV Q) sc w1 hi w2) (hQ : QRR Q w w1) (h62 : w1.2.2.1 62 = w.2.2.1 62) {F : MS → Unit → Option (MS × Int32)} (hF : ∀ v, F v () = some (v, rt)) : PK (fun v _ => RUX w0 T Q sc w hi v) (bnd (fm_M_forgetSaved N w2) F) := by
  obtain ⟨Q3, sc3, z1, z2, z3⟩ := hz
  have hm := z2.2.2
  rw [QSV_75, QSV_77, QSV_n (by decide) (by decide)] at hm
  refine fgs_x z1 ⟨hm.1, hm.2.1⟩ (fun v hv hv2 => ?_)
  rw [hF v]
  have e2 : ∀ k, k ≠ 75 → k ≠ 77 → qst (qst Q3 75 (Q 75)) 77 (Q 77) k = Q3 k := fun k h1 h2 => (qst_no h2).trans (qst_no h1)
  refine pk_some ⟨_, sc3, hv, ⟨?_, fun k hk => ?_, (qst_no (by decide)).trans qst_at, qst_at, (e2 83 (by decide) (by decide)).trans hm.2.2⟩, z3.1, fun s j h1 h3 => by
    have := z3.2 s j h1 h3
    rw [h62] at this
    rw [hv2]
    exact this⟩
  · exact QRR_e (QRR_tr hQ z2.1 QSV_le) (by rw [hv2]) (by rw [hv2])
  · by_cases h1 : k = 75
    · rw [h1, qst_no (by decide), qst_at]; exact Nat.le_refl _
    by_cases h2 : k = 77
    · rw [h2, qst_at]; exact Nat.le_refl _
    rw [e2 k h1 h2]
    have := z2.2.1 k hk
    rw [QSV_n h1 h2] at this
    exact this
/-- simple() -/
theorem ru_smp (c : CTZ m0 w0 K T nm Nk) (IW : HRW N m0 w0 K T f) (hE : PAcK m0 f n lo hi xa xb q r) (hcl : NEC (K hi) ∧ hi ≤ T) (hR : XRS w0 T w lo Q sc) : PK (fun v _ => RUX w0 T Q sc w hi v) (km_M_simple N (krc_M_behind N d) w) := by
  refine rv_pk (u := w0) ?_
  unfold km_M_simple kb_M_simple_0
  refine sv_y hR (fun v hX hQ s8 _ _ _ => ?_)
  cases d with
  | zero => exact pp_nr
  | succ d =>
  refine r_bnd (pk_mo (IW d n lo hi xa xb q r v (QSV Q) sc hE ⟨hcl.1.2.1, hcl.2, hcl.1.1⟩ hX) (fun w2 rt hz => ?_))
  have hz' := hz
  obtain ⟨Q2, sc2, hX2, -⟩ := hz'
  unfold kb_M_simple_39 kb_M_simple_97
  rw [decide_eq_true hX2.1.2.2.1, br_tq, isS_e (k := 30) (s := 11) (XRS_wp c hX2) (by decide) rfl, if_neg hcl.1.2.2.1, bnd_s, show decide ((0 : Int32) = 0) = true from rfl, br_tq, decide_eq_true hX2.1.2.2.1, br_tq, isS_e (k := 36) (s := 21) (XRS_wp c hX2) (by decide) rfl, if_neg hcl.1.2.2.2, bnd_s, show decide ((0 : Int32) = 0) = true from rfl, br_tq]
  exact pp_l (RUX_mk hz hQ (s8 62 (by decide) (by decide)) (fun v => rfl))
theorem ru_exp (c : CTZ m0 w0 K T nm Nk) (IW : HRW N m0 w0 K T f) : HRE N m0 w0 K T f := by
  intro d n lo hi xa xb q r w Q sc hE hcl hR
  cases d with
  | zero => exact pk_none
  | succ d =>
  refine rv_pk (u := w0) ?_
  show PP _ _ (km_M_expression N (krc_M_behind N d) w)
  have h9 : K lo ≠ 9 := Kne c hR.1.2.1.2 (by have := pa_beg9 hE; exact this)
  have hR1 := XRS_I (k := 70) (x := w.1 70 + 1) hR (by decide) (by decide)
  have e31 : PP (fun (_ : MS) (_ : Unit) v (_ : Int32) => RUX w0 T Q sc w hi v) (some (w0, ())) (kb_M_expression_31 N (krc_M_behind N d) () w) := by
    unfold kb_M_expression_31
    refine r_opens ?_
    rw [isV_e (k := 9) (s := 4) (XRS_wp c hR1) (by decide) rfl, bnd_s, if_neg h9, show decide ((0 : Int32) = 0) = true from rfl, br_tq]
    cases d with
    | zero => exact pp_nr
    | succ d =>
    refine r_bnd (pk_mo (ru_smp (d := d) c IW hE hcl hR1) (fun v rt hz => ?_))
    unfold kb_M_expression_137
    obtain ⟨Q2, sc2, hX⟩ := hz
    refine r_lt (pp_end ⟨Q2, sc2, XRS_I hX.1 (by decide) (by decide), ⟨QRR_e hX.2.1.1 rfl rfl, hX.2.1.2⟩, hX.2.2.1, H62_e hX.2.2.2 rfl⟩)
  unfold km_M_expression kb_M_expression_0
  rw [decide_eq_true hR.1.2.2.1, br_tq, bU_m (XRS_wp c hR), bnd_s, isV_e (k := 9) (s := 4) (XRS_wp c hR) (by decide) rfl, bnd_s, if_neg h9]
  cases bUK (K lo) with
  | false =>
    rw [show decide (b2c false = 0) = true from rfl, br_tq, show decide ((0 : Int32) = 0) = true from rfl, br_tq]
    exact pp_nr
  | true =>
    rw [show decide (b2c true = 0) = false from rfl, br_fq]
    exact e31
/-- the end of a row -/
theorem ru_125 (c : CTZ m0 w0 K T nm Nk) (h : RUQ w0 T Q0 sc0 wS mid Q2 sc2 w2) (hk : (K mid = 23 ∧ v3 = 3) ∨ (K mid = 25 ∧ v3 = 5)) (hlo : lo ≤ 4000) : PP (fun (_ : MS) (_ : α) v (_ : Int32) => RUX w0 T Q0 sc0 wS (mid + 1) v) A' (kb_M_row_125 N S G w2 (I (lo : Nat)) v2 v3 v4 v5) := by
  have hR := h.1
  have t4 := c.2.1.1.1
  have hl : mid < T := c.2.1.1.lt hR.1.2.1.2 (by omega) (by omega)
  have hA := RUQ_ad h hl
  obtain ⟨n1, n2⟩ := XRS_q hA.1
  have e140 : ∀ t1 : Int32, t1 = 4 ∨ t1 = 5 → PP (fun (_ : MS) (_ : α) v (_ : Int32) => RUX w0 T Q0 sc0 wS (mid + 1) v) A' (kb_M_row_140 N S G (adv w2 mid) (I (lo : Nat)) v4 v5 t1) := fun t1 ht => by
    unfold kb_M_row_140
    refine r_n2 n1 n2 (by rcases ht with rfl | rfl <;> rfl) (by omega) (fun v h16 hN h69 _ _ _ _ _ _ _ _ => ?_)
    exact pp_r (fun _ _ _ => ⟨_, _, RUQ_nod hA hN (h69.trans upI_at) hl h16⟩)
  have e2 : PP (fun (_ : MS) (_ : α) v (_ : Int32) => RUX w0 T Q0 sc0 wS (mid + 1) v) A' (br (decide (v2 = 0)) (kb_M_row_140 N S G (adv w2 mid) (I (lo : Nat)) v4 v5 5) (kb_M_row_140 N S G (adv w2 mid) (I (lo : Nat)) v4 v5 4)) := r_br (fun _ => e140 5 (Or.inr rfl)) (fun _ => e140 4 (Or.inl rfl))
  unfold kb_M_row_125
  rcases hk with ⟨hk, rfl⟩ | ⟨hk, rfl⟩
  · exact need_k (XRS_wp c hR) hR.1.2.2.1 (k := 23) (by decide) rfl (fun _ => e2)
  · exact need_k (XRS_wp c hR) hR.1.2.2.1 (k := 25) (by decide) rfl (fun _ => e2)
/-- a row of PATTERNS -/
theorem ru_row (c : CTZ m0 w0 K T nm Nk) (IE : HRE N m0 w0 K T f) (hcl : (NEC (K hi) ∧ hi ≤ T) ∧ K hi ≠ 26)
    (hend : ∀ M2 w2 Q2 sc2, RUQ w0 T Q0 sc0 wS hi Q2 sc2 w2 → PP RR A' (kg_M_row N (krc_M_behind N d) M2 w2 v1 v2 v3 (I (kk : Nat)) v5 0)) :
    ∀ (k n lo xa q M j : Nat) (w : MS) (Q : Nat → Nat) (sc : SCT), RWcK m0 1 26 (PAcK m0 f) k n lo hi xa xb q r → RUQ w0 T Q0 sc0 wS lo Q sc w → j + k = kk → PP RR A' (kg_M_row N (krc_M_behind N d) M w v1 v2 v3 (I (j : Nat)) v5 1)
  | 0, _, _, _, _, _, _, _, _, _, h, _, _ => h.elim
  | k + 1, n, lo, xa, q, 0, j, w, Q, sc, _, _, _ => pp_nr
  | k + 1, n, lo, xa, q, M + 1, j, w, Q, sc, h, ht, hj => by
    obtain ⟨mid, c1, s1, hE, h⟩ := h
    have hd := PA_bdK _ _ _ _ _ _ _ _ hE
    unfold HDc at hd
    have hdm : mid ≤ hi := by
      rcases h with ⟨-, -, rfl, rfl, rfl⟩ | ⟨-, n2, -, h3⟩
      · exact Nat.le_refl _
      · have := (RW_hdK (PA_bdK _) h3).1
        unfold HDc at this
        omega
    have hcm : NEC (K mid) ∧ mid ≤ T := by
      rcases h with ⟨-, -, rfl, -⟩ | ⟨⟨-, h2⟩, -⟩
      · exact hcl.1
      · have := hcl.1.2
        exact ⟨by rw [kA c (by omega) (h2 rfl)]; exact NEC_k.1, by omega⟩
    show PP RR _ (kb_M_row_50 N (krc_M_behind N d) (kg_M_row N (krc_M_behind N d) M) w v1 v2 v3 (I (j : Nat)) v5 1)
    unfold kb_M_row_50
    rw [show decide ((1 : Int32) = 0) = false from rfl, br_fq, decide_eq_true ht.1.1.2.2.1, br_tq]
    refine r_bnd (pk_mo (IE d n lo mid xa c1 q s1 w Q sc hE hcm ht.1) (fun w2 rt hz => ?_))
    obtain ⟨Q2, sc2, hz⟩ := hz
    have ht2 := RUQ_tr ht hz
    have hR2 := ht2.1
    have hw2 := XRS_wp c hR2
    refine r_92 hw2 hR2.1.2.2.1 (fun z => ?_) (fun z => ?_)
    · rcases h with ⟨rfl, h21, rfl, rfl, rfl⟩ | ⟨⟨h1, h2⟩, n2, h21, h3⟩
      · exact absurd z hcl.2
      · have hl : mid < T := c.2.1.1.lt hR2.1.2.1.2 (by omega) (by omega)
        exact ru_row c IE hcl hend k n2 (mid + 1) c1 s1 M (j + 1) (adv w2 mid) Q2 sc2 h3 (RUQ_ad ht2 hl) (by omega)
    · rcases h with ⟨rfl, h21, rfl, rfl, rfl⟩ | ⟨⟨h1, h2⟩, n2, h21, h3⟩
      · rw [show j + 1 = kk by omega]
        exact hend M w2 Q2 sc2 ht2
      · exact absurd (kA c hR2.1.2.1.2 (h2 rfl)) z
/-- ( ) -/
theorem ru_grp (c : CTZ m0 w0 K T nm Nk) (IE : HRE N m0 w0 K T f) (hR : XRS w0 T w lo Q sc) (hE : PAcK m0 f x (lo + 1) (hi - 1) xa xb q r) (h6 : A m0 6 lo = 20) (h6b : A m0 6 (hi - 1) = 21) (hiT : hi ≤ T) : PK (fun v _ => RUX w0 T Q sc w hi v) (km_M_alone N (krc_M_behind N d) w (I (lo : Nat))) := by
  have t4 := c.2.1.1.1
  have hd := PA_bdK _ _ _ _ _ _ _ _ hE
  unfold HDc at hd
  have k20 : K lo = 20 := kA c (by omega : lo ≤ T) h6
  have k21 : K (hi - 1) = 21 := kA c (by omega : hi - 1 ≤ T) h6b
  refine rv_pk (u := w0) (al_par c hR k20 ?_)
  have hA := RUQ_ad (RUQ_rf hR) (show lo < T by omega)
  refine r_bnd (pk_mo (IE d x (lo + 1) (hi - 1) xa xb q r (adv w lo) Q sc hE ⟨by rw [k21]; exact NEC_k.2.2.2.1, by omega⟩ hA.1) (fun w2 rt hz => ?_))
  obtain ⟨Q2, sc2, hz⟩ := hz
  have h2 := RUQ_ad (RUQ_tr hA hz) (show hi - 1 < T by omega)
  rw [show hi - 1 + 1 = hi by omega] at h2
  exact r_bnd (pk_ndS c hz.1 (k := 21) (by decide) rfl (fun _ => pp_end ⟨_, _, h2⟩))
/-- a TUPLE -/
theorem ru_tup (c : CTZ m0 w0 K T nm Nk) (IE : HRE N m0 w0 K T f) (hR : XRS w0 T w lo Q sc) (hT : TUcK m0 (PAcK m0 f) n lo hi xa q r) (hlh : lo + 2 ≤ hi) (hiT : hi ≤ T) : PK (fun v _ => RUX w0 T Q sc w hi v) (km_M_alone N (krc_M_behind N d) w (I (lo : Nat))) := by
  obtain ⟨k, m1, c1, h18, h19, ⟨hk8, h6, h6b⟩, hE, hc1⟩ := hT
  have t4 := c.2.1.1.1
  have k22 : K lo = 22 := kA c (by omega : lo ≤ T) h6
  have k23 : K (hi - 1) = 23 := kA c (by omega : hi - 1 ≤ T) h6b
  have hw := XRS_wp c hR
  have hl : lo < T := by omega
  refine rv_pk (u := w0) (al_row c hR (Or.inl k22) (r_id ?_))
  cases d with
  | zero => exact pp_nr
  | succ d =>
  show PP _ _ (kb_M_row_0 N (krc_M_behind N d) (kg_M_row N (krc_M_behind N d) N) w (I (lo : Nat)))
  unfold kb_M_row_0 kb_M_row_15
  rw [isS_e (k := 22) (s := 2) hw (by decide) rfl, if_pos k22, bnd_s, show decide ((1 : Int32) = 0) = false from rfl, br_fq]
  have e1 : w.1 69 + 1 = I ((lo + 1 : Nat) : Int) := by rw [hR.1.2.1.1, i_suc]
  rw [lt_e, e1]
  have ht := RUQ_ad (RUQ_rf hR) hl
  have hA := ht.1
  have hwA := XRS_wp c hA
  rw [show upI w 69 (I ((lo + 1 : Nat) : Int)) = adv w lo from rfl, decide_eq_true hA.1.2.2.1, br_tq, isS_e (k := 23) (s := 3) hwA (by decide) rfl, bnd_s]
  rcases hE with ⟨rfl, rfl, h1, h2, h3⟩ | ⟨h1, hE⟩
  · rw [if_pos (by rw [h1]; exact k23), show decide ((1 : Int32) = 0) = false from rfl, br_fq]
    have := ru_125 (N := N) (S := krc_M_behind N d) (G := kg_M_row N (krc_M_behind N d) N) (v2 := 1) (v3 := 3) (v4 := 0) (v5 := 0) (A' := some (w0, ())) (lo := lo) c ht (Or.inl ⟨by rw [h1]; exact k23, rfl⟩) (by omega)
    rw [show lo + 1 + 1 = hi by omega] at this
    exact this
  · have k23n : K (lo + 1) ≠ 23 := Kne c (by omega) (rw_k1 hE).2.1
    rw [if_neg k23n, show decide ((0 : Int32) = 0) = true from rfl, br_tq]
    refine ru_row (hi := hi - 1) (kk := k) c IE ⟨⟨by rw [k23]; exact NEC_k.2.2.2.2.1, by omega⟩, by omega⟩ (fun M2 w2 Q2 sc2 ht2 => ?_) k m1 (lo + 1) xa q N 0 (adv w lo) Q sc hE ht (by omega)
    cases M2 with
    | zero => exact pp_nr
    | succ M2 =>
      show PP _ _ (kb_M_row_50 N (krc_M_behind N d) (kg_M_row N (krc_M_behind N d) M2) w2 (I (lo : Nat)) 1 3 (I (k : Nat)) 0 0)
      unfold kb_M_row_50 kb_M_row_103
      rw [show decide ((0 : Int32) = 0) = true from rfl, br_tq, show decide ((1 : Int32) = 0) = false from rfl, br_fq]
      have := ru_125 (N := N) (S := krc_M_behind N d) (G := kg_M_row N (krc_M_behind N d) M2) (v2 := 1) (v3 := 3) (v4 := I (k : Nat)) (v5 := 0) (A' := some (w0, ())) (lo := lo) c ht2 (Or.inl ⟨k23, rfl⟩) (by omega)
      rw [show hi - 1 + 1 = hi by omega] at this
      exact this
/-- behind the parts of a LIST -/
theorem ru_103 (c : CTZ m0 w0 K T nm Nk) (IE : HRE N m0 w0 K T f) (ht : RUQ w0 T Q0 sc0 wS mid Q2 sc2 w2) (hlo : lo < mid) (k25 : K (hi - 1) = 25) (hiT : hi ≤ T) {c1 : Nat} (hT : (A m0 20 n = 0 ∧ hi = mid + 1 ∧ s = r ∧ c1 < n) ∨ ((1 ≤ k ∧ A m0 6 mid = 29) ∧ ∃ x c2 : Nat, A m0 20 n = ((x : Nat) : Int) ∧ PAcK m0 f x (mid + 1) (hi - 1) c1 c2 s r ∧ c2 < n)) : PP (fun (_ : MS) (_ : Unit) v (_ : Int32) => RUX w0 T Q0 sc0 wS hi v) (some (w0, ())) (kb_M_row_103 N (krc_M_behind N d) G w2 (I (lo : Nat)) 0 5 v4 0) := by
  have hR2 := ht.1
  have t4 := c.2.1.1.1
  have hw2 := XRS_wp c hR2
  unfold kb_M_row_103
  rw [show decide ((0 : Int32) = 0) = true from rfl, br_tq, tkS_e (k := 29) (s := 9) hw2 hR2.1.2.2.1 (by decide) rfl]
  rcases hT with ⟨h20, rfl, rfl, -⟩ | ⟨⟨h1, h29⟩, x, c2, h20, hE, hc2⟩
  · have k25 : K mid = 25 := k25
    rw [if_neg (by omega), bnd_s, show decide ((0 : Int32) = 0) = true from rfl, br_tq]
    exact ru_125 c ht (Or.inr ⟨k25, rfl⟩) (by omega)
  · have hd := PA_bdK _ _ _ _ _ _ _ _ hE
    unfold HDc at hd
    have k29 : K mid = 29 := kA c (by omega) h29
    have hl : mid < T := by omega
    rw [if_pos k29, bnd_s, show decide ((1 : Int32) = 0) = false from rfl, br_fq]
    have hA := RUQ_ad ht hl
    refine r_bnd (pk_mo (IE d x (mid + 1) (hi - 1) c1 c2 s r (adv w2 mid) Q2 sc2 hE ⟨by rw [k25]; exact NEC_k.2.2.2.2.2.1, by omega⟩ hA.1) (fun w3 rt hz => ?_))
    obtain ⟨Q3, sc3, hz⟩ := hz
    have := ru_125 (N := N) (S := krc_M_behind N d) (G := G) (v2 := 0) (v3 := 5) (v4 := v4) (v5 := 1) (A' := some (w0, ())) (lo := lo) c (RUQ_tr hA hz) (Or.inr ⟨k25, rfl⟩) (by omega)
    rw [show hi - 1 + 1 = hi by omega] at this
    exact this
/-- a LIST -/
theorem ru_lst (c : CTZ m0 w0 K T nm Nk) (IE : HRE N m0 w0 K T f) (hR : XRS w0 T w lo Q sc) (hT : TLcK m0 (PAcK m0 f) n lo hi xa q r) (hiT : hi ≤ T) : PK (fun v _ => RUX w0 T Q sc w hi v) (km_M_alone N (krc_M_behind N d) w (I (lo : Nat))) := by
  obtain ⟨k, m1, mid, c1, s1, h18, h19, ⟨hk8, h6, h6b⟩, hE, hT⟩ := hT
  have t4 := c.2.1.1.1
  have bd : lo < mid ∧ mid < hi := by
    have h1 := OR_hdK (PA_bdK _) hE
    rcases hT with ⟨-, h2, h3, h4⟩ | ⟨-, x, c2, -, hx, h2⟩
    · omega
    · have := PA_bdK _ _ _ _ _ _ _ _ hx
      unfold HDc at this
      omega
  have k24 : K lo = 24 := kA c (by omega : lo ≤ T) h6
  have k25 : K (hi - 1) = 25 := kA c (by omega : hi - 1 ≤ T) h6b
  have hw := XRS_wp c hR
  have hl : lo < T := by omega
  refine rv_pk (u := w0) (al_row c hR (Or.inr k24) (r_id ?_))
  cases d with
  | zero => exact pp_nr
  | succ d =>
  show PP _ _ (kb_M_row_0 N (krc_M_behind N d) (kg_M_row N (krc_M_behind N d) N) w (I (lo : Nat)))
  unfold kb_M_row_0 kb_M_row_15
  rw [isS_e (k := 22) (s := 2) hw (by decide) rfl, if_neg (by omega), bnd_s, show decide ((0 : Int32) = 0) = true from rfl, br_tq]
  have e1 : w.1 69 + 1 = I ((lo + 1 : Nat) : Int) := by rw [hR.1.2.1.1, i_suc]
  rw [lt_e, e1]
  have ht := RUQ_ad (RUQ_rf hR) hl
  have hA := ht.1
  have hwA := XRS_wp c hA
  rw [show upI w 69 (I ((lo + 1 : Nat) : Int)) = adv w lo from rfl, decide_eq_true hA.1.2.2.1, br_tq, isS_e (k := 25) (s := 5) hwA (by decide) rfl, bnd_s]
  rcases hE with ⟨rfl, rfl, h1, h2, h3⟩ | ⟨h1, hE⟩
  · subst h1
    rcases hT with ⟨h20, hh, hs, h4⟩ | ⟨⟨h, -⟩, -⟩
    · have k25' : K (lo + 1) = 25 := by rw [show lo + 1 = hi - 1 by omega]; exact k25
      rw [if_pos k25', show decide ((1 : Int32) = 0) = false from rfl, br_fq]
      have := ru_125 (N := N) (S := krc_M_behind N d) (G := kg_M_row N (krc_M_behind N d) N) (v2 := 0) (v3 := 5) (v4 := 0) (v5 := 0) (A' := some (w0, ())) (lo := lo) c ht (Or.inr ⟨k25', rfl⟩) (by omega)
      rw [show lo + 1 + 1 = hi by omega] at this
      exact this
    · omega
  · have k25n : K (lo + 1) ≠ 25 := Kne c (by omega) (rw_k1 hE).2.2.1
    have ncl : NEC (K mid) ∧ K mid ≠ 26 := by
      rcases hT with ⟨-, hh, -, -⟩ | ⟨⟨-, h29⟩, -⟩
      · rw [show mid = hi - 1 by omega, k25]
        exact ⟨NEC_k.2.2.2.2.2.1, by decide⟩
      · have : K mid = 29 := kA c (by omega) h29
        rw [this]
        exact ⟨NEC_k.2.2.2.2.2.2.1, by decide⟩
    rw [if_neg k25n, show decide ((0 : Int32) = 0) = true from rfl, br_tq]
    refine ru_row (hi := mid) (kk := k) c IE ⟨⟨ncl.1, by omega⟩, ncl.2⟩ (fun M2 w2 Q2 sc2 ht2 => ?_) k m1 (lo + 1) xa q N 0 (adv w lo) Q sc hE ht (by omega)
    cases M2 with
    | zero => exact pp_nr
    | succ M2 =>
      show PP _ _ (kb_M_row_50 N (krc_M_behind N d) (kg_M_row N (krc_M_behind N d) M2) w2 (I (lo : Nat)) 0 5 (I (k : Nat)) 0 0)
      unfold kb_M_row_50
      rw [show decide ((0 : Int32) = 0) = true from rfl, br_tq]
      exact ru_103 (n := n) (k := k) c IE ht2 bd.1 k25 hiT hT
/-- all PATTERNS, worked() -/
theorem ru_all (c : CTZ m0 w0 K T nm Nk) : ∀ f, HRW N m0 w0 K T f
  | 0 => fun d n lo hi xa xb q r w Q sc h => h.elim
  | f + 1 => by
    have IE := ru_exp c (ru_all c f)
    intro d n lo hi xa xb q r w Q sc h hcl hR
    have t4 := c.2.1.1.1
    have hd := PA_bdK _ _ _ _ _ _ _ _ h
    unfold HDc at hd
    obtain ⟨-, -, -, h⟩ := h
    rcases h with ⟨⟨-, h1, -⟩, rfl⟩ | ⟨-, n1, -, -, -, h2, rfl, h4⟩ | ⟨-, n1, c1, -, pa, hc1, h2, h3⟩ | ⟨-, h⟩ | ⟨-, h⟩
    · have hk : 1 ≤ K lo ∧ K lo ≤ 4 := by
        have e := c.1.2 lo (by omega)
        have k46 := c.1.1.k46 (show lo ≤ T by omega)
        have : A m0 6 lo = ((K lo : Nat) : Int) := by
          show (m0.2.2.1 6 lo).toInt = _
          rw [e]
          exact I_ti (by omega) (by omega)
        omega
      exact ru_wk c hR (by omega) (by omega) hcl.2.2 (fun d => ru_prim c hR (by omega) (fun z => hcl.1 z.2) hcl.1 (fun d => pk_mo (al_lfx c hR hk) (fun v _ h => h.2)))
    · have k34 : K lo = 34 := kA c (by omega) h4
      have k1 : K (lo + 1) = 1 := kA c (by omega) h2
      exact ru_neg c hR k34 k1 ⟨hcl.1, hcl.2.2⟩
    · have k20 : K lo = 20 := kA c (by omega) h2
      exact ru_wk c hR (by omega) (by omega) hcl.2.2 (fun d => ru_prim c hR (by omega) (fun z => by omega) hcl.1 (fun d => ru_grp c IE hR pa h2 h3 hcl.2.1))
    · have hlh : lo + 2 ≤ hi := by
        obtain ⟨kk, n1, c1, e18, e19, ⟨hkk, k22, k23⟩, hO, hcn⟩ := h
        by_cases z : hi = lo + 1
        · rw [z, show lo + 1 - 1 = lo by omega] at k23
          omega
        · omega
      have k22 : K lo = 22 := by
        obtain ⟨kk, n1, c1, e18, e19, ⟨hkk, k22, k23⟩, hO, hcn⟩ := h
        exact kA c (by omega) k22
      exact ru_wk c hR (by omega) (by omega) hcl.2.2 (fun d => ru_prim c hR (by omega) (fun z => by omega) hcl.1 (fun d => ru_tup c IE hR h hlh hcl.2.1))
    · have k24 : K lo = 24 := by
        obtain ⟨kk, n1, mid, c1, s1, e18, e19, ⟨hkk, k22, k23⟩, hO, hcn⟩ := h
        exact kA c (by omega) k22
      exact ru_wk c hR (by omega) (by omega) hcl.2.2 (fun d => ru_prim c hR (by omega) (fun z => by omega) hcl.1 (fun d => ru_lst c IE hR h hcl.2.1))
end
