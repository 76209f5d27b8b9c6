/-! expressions: SEND, both -/
set_option maxRecDepth 100000
section
variable {α β : Type} {m0 w0 m w m2 w2 m3 w3 v u w1 mS wS : MS} {K nm Nk W W2 : Nat → Nat} {N T D d o a a0 b b0 c cm cm0 cm2 cm3 q q0 r s lo lo0 mid hi i j f f2 n k kk p p2 σ tk x xa xb cc M M' m1 lv y t tok : Nat} {Q Q0 Q2 Q3 Q4 Qa : Nat → Nat} {sc sc0 sc2 sc3 : SCT} {g lst l2 : Bool} {L L1 L2 S : List Nat} {idc fof cvr : Int → Int → Int} {z : Unit} {rt v1 v2 v3 v4 v5 r0 : Int32} {fc : MS → Unit → Option (MS × Unit)} {RR : MS → Unit → MS → Int32 → Prop} {A' : Option (MS × Unit)} {B' : Option (MS × Int32)}
theorem xp_2 {u : MS} {q r hi lo n f : Nat} (h : XPcK u f o 3 n lo hi a b q r) (n19 : A u 16 n ≠ 19) (n20 : A u 16 n ≠ 20) (n21 : A u 16 n ≠ 21) : XPcK u f o 2 n lo hi a b q r := by
  cases f with
  | zero => exact h.elim
  | succ f =>
    obtain ⟨h1, h2, h3, h4⟩ := h
    refine ⟨h1, h2, h3, ?_⟩
    rcases h4 with h | h | h | h | h | h | h | h | h | h | h | h | h | h | h | h | h
    · exact Or.inl h
    · exact Or.inr (Or.inl h)
    · exact Or.inr (Or.inr (Or.inl h))
    · exact Or.inr (Or.inr (Or.inr (Or.inl h)))
    · exact Or.inr (Or.inr (Or.inr (Or.inr (Or.inl h))))
    · exact Or.inr (Or.inr (Or.inr (Or.inr (Or.inr (Or.inl h)))))
    · exact Or.inr (Or.inr (Or.inr (Or.inr (Or.inr (Or.inr (Or.inl h))))))
    · exact Or.inr (Or.inr (Or.inr (Or.inr (Or.inr (Or.inr (Or.inr (Or.inl h)))))))
    · exact Or.inr (Or.inr (Or.inr (Or.inr (Or.inr (Or.inr (Or.inr (Or.inr (Or.inl h))))))))
    · exact Or.inr (Or.inr (Or.inr (Or.inr (Or.inr (Or.inr (Or.inr (Or.inr (Or.inr (Or.inl h)))))))))
    · exact Or.inr (Or.inr (Or.inr (Or.inr (Or.inr (Or.inr (Or.inr (Or.inr (Or.inr (Or.inr (Or.inl h))))))))))
    · exact Or.inr (Or.inr (Or.inr (Or.inr (Or.inr (Or.inr (Or.inr (Or.inr (Or.inr (Or.inr (Or.inr (Or.inl ⟨h.1, by omega, h.2.2⟩)))))))))))
    · exact Or.inr (Or.inr (Or.inr (Or.inr (Or.inr (Or.inr (Or.inr (Or.inr (Or.inr (Or.inr (Or.inr (Or.inr (Or.inl ⟨h.1, by omega, h.2.2⟩))))))))))))
    · exact absurd h.1 n19
    · exact absurd h.1 n20
    · exact absurd h.1 n21
    · exact Or.inr (Or.inr (Or.inr (Or.inr (Or.inr (Or.inr (Or.inr (Or.inr (Or.inr (Or.inr (Or.inr (Or.inr (Or.inr (Or.inr (Or.inr (Or.inr ⟨h.1, Nat.le_refl _, h.2.2⟩)))))))))))))))
/-- simple(): no = and no ! -/
theorem x_smp1 (c : CTZ m0 w0 K T nm Nk) (IW : HXW N m0 w0 K T nm Nk fof cvr f) (hE : XPcK m0 f o 2 n lo hi xa xb q r) (hxb : xb ≤ 8015) (hr4 : r ≤ 400) (hcl : NEC (K hi) ∧ hi ≤ T) (hC : XCS m0 nm m a cm sc g) (hR : XRS w0 T w lo Q sc) (hq : Q 56 = q) (htot : tot sc + (hi - lo) ≤ 4000 ∧ sc.length ≤ o + 1) : PP (XZ m0 w0 K T nm Nk fof cvr lst g lo hi a cm q r Q sc m w) ((jrc_Cm_fun N D).2.2.2.2.2.2.2.2.2.2.1 m (I (n : Nat)) (lsI lst)) (km_M_simple N (krc_M_behind N d) w) := by
  unfold km_M_simple kb_M_simple_0
  refine sv_x hR (fun v hX hQ => ?_)
  cases d with
  | zero => exact pp_nr
  | succ d =>
  have := IW D d o n lo hi xa xb q r m v a cm (QSV Q) sc g lst (XZ m0 w0 K T nm Nk fof cvr lst g lo hi a cm q r (QSV Q) sc m v) (fun u _ => some (u, ())) hE hxb hr4 ⟨hcl.1.2.1, hcl.2, hcl.1.1⟩ hC hX (by rw [QSV_n (by decide) (by decide)]; exact hq) htot (fun m2 w2 rt hz => pp_end hz)
  rw [bnd_idl] at this
  refine pp_rb (pp_mo this (fun m2 z w2 rt hz => ?_))
  obtain ⟨Q2, sc2, hX2⟩ := XZ_pr hz
  unfold kb_M_simple_39 kb_M_simple_97
  rw [decide_eq_true hX2.1.2.2.1, br_t, isS_e (k := 30) (s := 11) (XRS_wp c hX2) (by decide) rfl, if_neg hcl.1.2.2.1, bnd_s, show decide ((0 : Int32) = 0) = true from rfl, br_t, decide_eq_true hX2.1.2.2.1, br_t, isS_e (k := 36) (s := 21) (XRS_wp c hX2) (by decide) rfl, if_neg hcl.1.2.2.2, bnd_s, show decide ((0 : Int32) = 0) = true from rfl, br_t]
  exact XZ_mk hz hQ (fun v => rfl)
/-- behind = and ! -/
theorem x_bh (c : CTZ m0 w0 K T nm Nk) (IS : HXS N m0 w0 K T nm Nk fof cvr f) (hE : XPcK m0 f o 3 n lo hi xa xb q r) (h9 : A m0 6 lo ≠ 9) (hxb : xb ≤ 8015) (hr4 : r ≤ 400) (hcl : NEC (K hi) ∧ hi ≤ T) (hC : XCS m0 nm m a cm sc g) (hR : XRS w0 T w lo Q sc) (hq : Q 56 = q) (htot : tot sc + (hi - lo) ≤ 4000 ∧ sc.length ≤ o + 1) : PP (XZ m0 w0 K T nm Nk fof cvr lst g lo hi a cm q r Q sc m w) ((jrc_Cm_fun N D).2.2.2.2.2.2.2.2.2.2.1 m (I (n : Nat)) (lsI lst)) ((krc_M_behind N d).1 w) := by
  cases d with
  | zero => exact pp_nr
  | succ d =>
  show PP _ _ (km_M_behind N (krc_M_behind N d) w)
  unfold km_M_behind kb_M_behind_0
  rw [decide_eq_true hR.1.2.2.1, br_t, bU_m (XRS_wp c hR), bnd_s]
  cases bUK (K lo) with
  | false =>
    rw [show decide (b2c false = 0) = true from rfl, br_t]
    exact pp_nr
  | true =>
    rw [show decide (b2c true = 0) = false from rfl, br_f]
    refine r_opens ?_
    cases d with
    | zero => exact pp_nr
    | succ d =>
    have hi1 := XTR_I (k := 70) (x := w.1 70 + 1) (XTR_rf (lst := lst) (K := K) (Nk := Nk) (fof := fof) (cvr := cvr) hC hR hq) (by decide) (by decide)
    refine pp_rb (pp_mo (IS D d o n lo hi xa xb q r m _ a cm Q sc g lst hE h9 hxb hr4 hcl hC hi1.2.2.1.1 hq htot) (fun m2 z w2 rt hz => ?_))
    refine pk_ltq (pk_some ?_)
    exact XZ_out (XZ_in hi1 hz) (fun Q2 sc2 h => XRS_I h (by decide) (by decide)) rfl (Nat.le_refl _) (fun j a b => by omega)
/-- a SEND: words, a node -/
theorem snd_n {F : MS → Int32 → Option (MS × Int32)} (c : CTZ m0 w0 K T nm Nk) (ht : XTR m0 w0 K T nm Nk fof cvr lst g [] lo hi a b cm cm2 q r Q Q2 sc sc2 m w m2 w2) (hiT : hi ≤ T) (hlh : lo < hi) (htk : tk ≤ 4002) (ha : b < 23990) (hh : ∀ v, XZ m0 w0 K T nm Nk fof cvr lst g lo hi a cm q r Q sc m w (ptc m2 b 17) () v (I (Q2 32 : Nat)) → PP RR A' (F v (I (Q2 32 : Nat)))) : PP RR A' (bnd (fm_M_node N w2 11 (I (tk : Nat))) F) := by
  have hC := ht.2.1
  have hR := ht.2.2.1.1
  have t4 := c.2.1.1.1
  have l1 := ht.1
  obtain ⟨n1, n2⟩ := XRS_q hR
  refine r_nod n1 n2 rfl (nsh htk) (fun h16 => ?_)
  have hN : NOD w2 (nwD w2 (Q2 32) 11 (I (tk : Nat))) (Q2 32) := NOD_0 n1
  obtain ⟨d1, d2, d3, d4, d5, d6, d7, d8⟩ := nwD_at (w := w2) (i := Q2 32) (k := 11) (t := I (tk : Nat))
  have d9 : (nwD w2 (Q2 32) 11 (I (tk : Nat))).1 69 = I (hi : Nat) := by rw [nwD_i (by decide)]; exact hR.1.2.1.1
  generalize nwD w2 (Q2 32) 11 (I (tk : Nat)) = v at hN d1 d2 d3 d4 d5 d6 d7 d8 d9
  have a23 : A v 23 (Q2 32) = 11 := congrArg Int32.toInt d1
  have a28 : A v 28 (Q2 32) = -1 := congrArg Int32.toInt d6
  have h1 := XCS_put (x := 17) hC ha
  have em : ptc m2 b 17 = ptcs m2 b [17] := rfl
  refine hh v (XZ_n (L := []) (c := b + 1) ht (XT_nod hC hR ht.2.2.1.2 ⟨Nat.le_refl _, hiT⟩ (fun j j1 j2 => by omega) (by omega) h1 (by rw [em]; exact XFC_ps XFC_rf (Nat.le_refl _)) (by rw [em]; exact ptcs_r (by decide)) hN rfl h16 d9 (fun n hn => by cases hn) (fun C P R J H fi hx => ⟨fun u u1 u2 => by omega, fun y hy hr => ?_⟩)) (by omega) hlh a28 (Or.inl ⟨rfl, by rw [a23]; decide⟩))
  have gc := fi.1
  rw [em] at gc
  have ro : ∀ k, 23 ≤ k ∧ k ≤ 31 → k ≠ 27 ∧ k ≠ 29 ∧ k ≠ 30 → R k (Q2 32) = A v k (Q2 32) := fun k k1 k2 => FIN_R fi k1 k2 ⟨Nat.le_refl _, by rw [qst_at]; omega⟩
  have R23 := (ro 23 (by decide) (by decide)).trans a23
  have c0 := C_0 gc (show b < b + 1 by omega)
  obtain ⟨b1, b2⟩ := XB c.2.2.1 hC hR hx h16
  obtain ⟨d, hd⟩ := hr
  rw [qst_at] at hd
  exact cr_1 b1 b2 ⟨d, Or.inr (Or.inr (Or.inr (Or.inr (Or.inr (Or.inr (Or.inr (Or.inr (Or.inr (Or.inr (Or.inl ⟨R23, c0, hd⟩))))))))))⟩
theorem x_snd (c : CTZ m0 w0 K T nm Nk) (IW : HXW N m0 w0 K T nm Nk fof cvr f) (IS : HXS N m0 w0 K T nm Nk fof cvr f) (hE : XPcK m0 (f + 1) o 3 n lo hi xa xb q r) (h16 : A m0 16 n = 21) (hxb : xb ≤ 8015) (hr4 : r ≤ 400) (hcl : NEC (K hi) ∧ hi ≤ T) (hC : XCS m0 nm m a cm sc g) (hR : XRS w0 T w lo Q sc) (hq : Q 56 = q) (htot : tot sc + (hi - lo) ≤ 4000 ∧ sc.length ≤ o + 1) : PP (XZ m0 w0 K T nm Nk fof cvr lst g lo hi a cm q r Q sc m w) ((jrc_Cm_fun N D).2.2.2.2.2.2.2.2.2.2.1 m (I (n : Nat)) (lsI lst)) (km_M_simple N (krc_M_behind N d) w) := by
  have t4 := c.2.1.1.1
  have hd := xp_hd hE
  have fr := XCS_fr hC
  have hn : n ≤ 8015 := by omega
  obtain ⟨-, ⟨tk, h17, htk⟩, -, h4⟩ := hE
  rcases h4 with h | h | h | h | h | h | h | h | h | h | h | h | h | h | h | h | h
  · have := h.1.1; have := h.1.2.1; omega
  · have := h.1; omega
  · have := h.1; omega
  · have := h.1; omega
  · have := h.1; omega
  · have := h.1; omega
  · have := h.1; omega
  · have := h.1; omega
  · have := h.1; omega
  · have := h.1; omega
  · have := h.1; omega
  · have := h.1; omega
  · rcases h.1 with z | z <;> omega
  · have := h.1; omega
  · have := h.1; omega
  · obtain ⟨-, -, x, y, mid, c1, c2, s, h18, hx, h19, hy, hc2, k36, k9⟩ := h
    have hdx := xp_hd hx
    have hdy := xp_hd hy
    have km : K mid = 36 := kA c (by omega) k36
    unfold km_M_simple kb_M_simple_0
    refine sv_x hR (fun v hX hQ => ?_)
    cases d with
    | zero => exact pp_nr
    | succ d =>
    cases D with
    | zero => exact pp_nl
    | succ D =>
    show PP _ (jm_Cm_expression N (jrc_Cm_fun N D) m (I (n : Nat)) (lsI lst)) _
    refine exd_21 hn (tre fr (by decide) h16) (l_id ?_)
    cases D with
    | zero => exact pp_nl
    | succ D =>
    show PP _ (jm_Cm_compound N (jrc_Cm_fun N D) m (I (n : Nat)) (lsI lst)) _
    refine cmd_21 hn (tre fr (by decide) h16) hC.2 (tre fr (by decide) h17) (by omega) (fun hg => l_ck (fun _ => ?_))
    rw [tre fr (by decide) h18]
    have q56 : QSV Q 56 = q := by rw [QSV_n (by decide) (by decide)]; exact hq
    refine pp_rb (IW D d o x lo mid xa c1 q s m v a cm (QSV Q) sc g false _ _ hx (by omega) (by omega) ⟨by omega, by omega, by rw [km]; rfl⟩ hC hX q56 (by omega) (fun m2 w2 rt hz => pp_rx ?_))
    obtain ⟨b2, cm2, Q2, sc2, ht⟩ := XZ_tr (lst := lst) hz (XTR_rf hC hX q56)
    have hR2 := ht.2.2.1.1
    unfold kb_M_simple_39
    rw [decide_eq_true hR2.1.2.2.1, br_t, isS_e (k := 30) (s := 11) (XRS_wp c hR2) (by decide) rfl, if_neg (by omega), bnd_s, show decide ((0 : Int32) = 0) = true from rfl, br_t, decide_eq_true hR2.1.2.2.1, br_t, isS_e (k := 36) (s := 21) (XRS_wp c hR2) (by decide) rfl, if_pos km, bnd_s, show decide ((1 : Int32) = 0) = false from rfl, br_f, hR2.1.2.1.1]
    refine l_ck (fun _ => ?_)
    rw [tre (XCS_fr ht.2.1) (by decide) h19]
    have e74 : ∀ w3, XTR m0 w0 K T nm Nk fof cvr lst g [] lo mid a b2 cm cm2 q s (QSV Q) Q2 sc sc2 m v m2 w3 → PP (XZ m0 w0 K T nm Nk fof cvr lst g lo hi a cm q r Q sc m w) (bnd ((jrc_Cm_fun N D).2.2.2.2.2.2.2.2.2.2.1 m2 (I (y : Nat)) 0) (fun u125 r125 => bnd (jm_Co_put N u125 17) (fun u127 r127 => jb_Cm_compound_455 N (jrc_Cm_fun N D) () u127))) (kb_M_simple_74 N (krc_M_behind N (d + 1)) () w3 (I (mid : Nat))) := fun w3 ht3 => by
      unfold kb_M_simple_74
      have hR3 := ht3.2.2.1.1
      have e69 : w3.1 69 + 1 = I ((mid + 1 : Nat) : Int) := by rw [hR3.1.2.1.1, i_suc]
      rw [lt_e, e69, show upI w3 69 (I ((mid + 1 : Nat) : Int)) = adv w3 mid from rfl]
      have ht4 := XTR_ad ht3 (by omega) (by omega)
      have hl4 := ht4.2.2.2.1
      have ttl := XTR_len ht4
      refine pp_bb (pp_mo (x_bh (o := o + 1) (lst := false) c IS hy k9 (by omega) hr4 hcl ht4.2.1 ht4.2.2.1.1 ht4.2.2.1.2 (by omega)) (fun m5 z w5 rt5 hz5 => ?_))
      obtain ⟨b6, cm6, Q6, sc6, ht6⟩ := XZ_tr (lst := lst) hz5 ht4
      have hC6 := ht6.2.1
      refine l_put hC6.1.2.2.1.1 hC6.1.2.2.1.2.2 (fun ha => ?_)
      refine snd_n c ht6 hcl.2 (by omega) (by omega) ha (fun v7 hz7 => ?_)
      unfold kb_M_simple_97
      exact pp_l (XZ_mk hz7 hQ (fun v => rfl))
    refine r_br (fun _ => e74 w2 ht) (fun _ => r_rul (fun v8 hv => e74 v8 (XTR_mv ht (RUL_x hv hR2) hv.2 (Nat.le_refl _) (fun j a b => by omega))))
  · have := h.1; omega
end
