/-! a part with a PATTERN, both: as far as its GUARD -/
set_option maxRecDepth 100000
section
variable {α β : Type} {m0 w0 m w m2 w2 m3 w3 v u w1 mS wS : MS} {K nm Nk W W2 : Nat → Nat} {N T D d o a a0 b b0 c cm cm0 cm2 cm3 q q0 r s lo lo0 mid hi i j f f2 n k kk p p2 σ tk x xa xb M m1 lv y kf : Nat} {Q Q0 Q2 Q3 Q4 : Nat → Nat} {sc sc0 sc2 sc3 t t2 : SCT} {e e2 : List Nat × List Nat × Nat} {g g2 lst l2 : Bool} {L L1 L2 S : List Nat} {l : List Int32} {idc fof cvr : Int → Int → Int} {z : Unit} {rt v1 v2 v3 v4 v5 t4 t5 xw : Int32} {fc : MS → Int32 → Option (MS × α)} {RR : MS → α → MS → β → Prop} {F : MS → Int32 → Option (MS × β)}
theorem XTF_ps (hC : XCS m0 nm (ptcs m a l) (a + l.length) cm sc g) (hR : XRS w0 T w lo Q sc) (hq : Q 56 = q) : XTF m0 w0 K T nm Nk g [] lo lo a (a + l.length) cm cm q q Q Q sc sc m w (ptcs m a l) w := ⟨⟨Nat.le_refl _, by omega, Nat.le_refl _, Nat.le_refl _⟩, hC, ⟨hR, hq⟩, by omega, ⟨fun _ => 0, HDx_gap (fun j a b => by omega), by rw [wup_0 (fun j a b => by omega)]; exact ptcs_r (by decide)⟩, XFC_ps XFC_rf (Nat.le_refl _), XFR_rf, fun _ => rfl, fun n hn => (by cases hn)⟩
theorem hd_x (c : CTZ m0 w0 K T nm Nk) (cv : CTV m0 w0 K T) (hE : PAcK m0 f p lo hi xa xb q q) (hxb : xb ≤ 8015) (hC : XCS m0 nm m a cm sc false) (hR : XRS w0 T w lo Q sc) (hq : Q 56 = q) (htot : tot sc + (hi - lo) ≤ 4000) (hn : n ≤ 8015) (h18 : A m0 18 n = ((p : Nat) : Int)) (h21 : A m0 21 p = 0) (hv1 : decide (v1 < 0) = true)
    (hh : ∀ m5 w5 b cm2 pj pn sc2 kf, XTF m0 w0 K T nm Nk false [] lo hi a (b + 1) cm cm2 q q Q (qst Q 39 pj) sc sc2 m w m5 w5 → a + 3 < b → (Q 39 ≤ pn ∧ pn < pj ∧ w5.2.2.1 37 pn = -1) → (m5.2.2.1 23 a = 19 ∧ m5.2.2.1 23 (a + 1) = v1 ∧ m5.2.2.1 23 (a + 2) = 0 ∧ m5.2.2.1 23 b = 8) → (∀ k, k < 33 ∨ (38 < k ∧ k < 59) ∨ 64 < k → w5.2.2.1 k = w.2.2.1 k) → (∀ k, k ≠ 39 → k ≠ 66 → k ≠ 69 → w5.1 k = w.1 k) → (∀ C R J H, AGC C m5 (a + 3) b → GRS R w0 → AGP R J w5 (Q 39) pj pn → HPX nm sc2 H → PTs C R J H f (a + 3) pn (Onm nm sc) b (Onm nm sc2)) → PP RR (bnd (jb_Cm_tries_111 N (jrc_Cm_fun N D) (jg_Cm_tries N (jrc_Cm_fun N D) kf) m5 (I (n : Nat)) (m.1 706) (I ((a + 2 : Nat) : Int))) fc) (F w5 (I (pn : Nat)))) : PP RR (bnd (jm_Cm_tries N (jrc_Cm_fun N D) m v1 (I (n : Nat))) fc) (bnd (kr_M_patternAt N w 0) F) := by
  have tt4 := c.2.1.1.1
  have fr := XCS_fr hC
  have hd := PA_bdK _ _ _ _ _ _ _ _ hE
  unfold HDc at hd
  have hp0 : p ≤ 8015 := by omega
  have n713 : ∀ {m : MS} {a cm : Nat} {sc : SCT}, XCS m0 nm m a cm sc false → upI m 713 0 = m := fun h => upI_id (of_decide_eq_true (by have := h.1.2.2.2.1; exact this))
  unfold jm_Cm_tries jb_Cm_tries_0
  rw [bnd_ck, i_nt2 (show n ≤ 100000 by omega), tre fr (by decide) h18]
  refine l_ck (fun _ => ?_)
  rw [decide_eq_false (fun z => by
    have := (I_eq (x := ((p : Nat) : Int)) (y := 0) (by omega) (by omega) (by decide) (by decide)).mp z
    omega), br_f, bnd_as2]
  refine l_put hC.1.2.2.1.1 hC.1.2.2.1.2.2 (fun ha => ?_)
  have k1 := XCS_put (x := 19) hC ha
  rw [bnd_as2]
  refine l_put k1.1.2.2.1.1 k1.1.2.2.1.2.2 (fun ha1 => ?_)
  have k2 := XCS_put (x := v1) k1 ha1
  unfold jm_Co_hook jb_Co_hook_0
  rw [bnd_as2, bnd_as2]
  refine l_put k2.1.2.2.1.1 k2.1.2.2.1.2.2 (fun ha2 => ?_)
  have k3 := XCS_put (x := 0) k2 ha2
  rw [bnd_s]
  have em : ptc (ptc (ptc m a 19) (a + 1) v1) (a + 1 + 1) 0 = ptcs m a [19, v1, 0] := rfl
  rw [em] at k3 ⊢
  have e441 : (ptcs m a [19, v1, 0]).1 441 = I ((a + 2 + 1 : Nat) : Int) := k3.1.2.2.1.1
  rw [e441, I_sn, hv1, br_t]
  unfold jb_Cm_tries_57
  have k3' : XCS m0 nm (ptcs m a [19, v1, 0]) (a + 3) cm sc false := k3
  rw [show isb 0 = true from rfl, ck_t, lt_e, n713 k3', bnd_ck, i_nt2 (show n ≤ 100000 by omega), tre (XCS_fr k3') (by decide) h18]
  refine l_ck (fun _ => ?_)
  cases N with
  | zero => exact pp_nl
  | succ N =>
  show PP RR (bnd (jb_Cm_tries_71 (N + 1) (jrc_Cm_fun (N + 1) D) (jg_Cm_tries (N + 1) (jrc_Cm_fun (N + 1) D) N) (ptcs m a [19, v1, 0]) (I (n : Nat)) (m.1 706) (I ((a + 2 : Nat) : Int)) (I (p : Nat))) fc) _
  unfold jb_Cm_tries_71
  rw [decide_eq_false (fun z => by
    have := (I_eq (x := ((p : Nat) : Int)) (y := 0) (by omega) (by omega) (by decide) (by decide)).mp z
    omega), br_f, bnd_as2]
  unfold jr_Cm_pattern kr_M_patternAt
  refine pp_bb (pp_mo (pt_all c cv f _ _ p lo hi xa xb q q (ptcs m a [19, v1, 0]) w (a + 3) cm (Q 39) sc false 0 hE hxb k3'.1 hR.1 htot rfl) (fun m2 z w2 rt hz => ?_))
  obtain ⟨pn, b, pj, cm2, sc2, rfl, h2, h3, h4, h5, h6, h7⟩ := XTF_pt k3' hR hq (by omega) hz
  have hC2 := h4.2.1
  rw [bnd_ck, i_nt2 (show p ≤ 100000 by omega), tre (XCS_fr hC2) (by decide) h21]
  refine l_ck (fun _ => ?_)
  cases N with
  | zero => exact pp_nl
  | succ N =>
  show PP RR (bnd (jb_Cm_tries_71 (N + 1 + 1) (jrc_Cm_fun (N + 1 + 1) D) (jg_Cm_tries (N + 1 + 1) (jrc_Cm_fun (N + 1 + 1) D) N) m2 (I (n : Nat)) (m.1 706) (I ((a + 2 : Nat) : Int)) (I 0)) fc) _
  unfold jb_Cm_tries_71
  rw [show decide (I 0 = (0 : Int32)) = true from rfl, br_t, lt_e, n713 hC2, bnd_as2]
  refine l_put hC2.1.2.2.1.1 hC2.1.2.2.1.2.2 (fun ha3 => ?_)
  have k5 := XCS_put (x := 8) hC2 ha3
  have e8 : ptc m2 b 8 = ptcs m2 b [8] := rfl
  have X1 := XTF_ps (K := K) (Nk := Nk) (l := [19, v1, 0]) k3' hR hq
  have X3 := XTF_ps (K := K) (Nk := Nk) (l := [8]) k5 h4.2.2.1.1 h4.2.2.1.2
  have X := XTF_tr (XTF_tr X1 h4) X3
  have wd : ∀ k z, [19, v1, 0][k]? = some z → k < 3 → (ptc m2 b 8).2.2.1 23 (a + k) = z := fun k z hz hk => by
    rw [ptc_o (by omega), h4.2.2.2.2.2.1.2.2.1 (a + k) (by omega)]
    exact ptcs_at hz
  refine hh (ptc m2 b 8) w2 b cm2 pj pn sc2 _ X h3 h2 ⟨wd 0 _ rfl (by decide), wd 1 _ rfl (by decide), wd 2 _ rfl (by decide), ptcs_at (l := [8]) (k := 0) rfl⟩ h5 h6 (fun C R J H g1 g2 g3 g4 => h7 C R J H (fun k k1 k2 => ?_) g2 g3 g4)
  rw [g1 k k1 k2]
  show ((ptc m2 b 8).2.2.1 23 k).toInt = _
  rw [ptc_o (by omega)]; rfl
end
