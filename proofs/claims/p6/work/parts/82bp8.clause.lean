set_option maxRecDepth 100000
def STN (m0 w0 : MS) (K : Nat → Nat) (T : Nat) (Nk : Nat → Nat) (mB wB : MS) (p0 n0 : Nat) (sc : SCT) (s : Nat) (m w : MS) (p n : Nat) (sc2 : SCT) (X : Nat) (W : Nat → Nat) (Rf Zf : Bool) (CL : Int32 × Int32 × Int32 → Prop) : Prop := RLP m0 w0 T p m w ∧ (p0 ≤ p ∧ m.1 306 = I (n : Nat) ∧ n0 ≤ n ∧ n + 2 * p0 + s ≤ n0 + 2 * p) ∧ KPO n0 mB m ∧ PCG mB m ∧ STW Nk K p0 p sc sc2 X W Rf Zf CL wB w
def cl134 (N : Nat) (S : SG_M_behind) (M : Nat) (x : MS) (v2 v5 : Int32) : Option (MS × Int32) := br (decide ((x.2.2.1 41 v2.toNatClampNeg) = 6)) (bnd (fm_M_isSign N x 6) (fun u11 r11 => br (decide (r11 = 0)) (fb_M_clause_172 N S (gg_M_clause N S M) u11 v2 v5) (bnd (fm_M_wrong N u11 2) (fun u12 _ => fb_M_clause_172 N S (gg_M_clause N S M) u12 v2 v5)))) (fb_M_clause_172 N S (gg_M_clause N S M) x v2 v5)
section
variable {α : Type} {R : MS → Int32 ⊕ Nat → MS → Int32 → Prop} {A : Option (MS × α)} {m0 w0 m w v u m2 m3 w2 x' y' z' mF mB wB mp mg : MS} {K nm Nk W W1 W2 WA WB : Nat → Nat} {T p n N q q1 q3 X Y X1 X2 XA n0 n1 n2 n3 lo lo2 l1 l2 np ng p0 p2 p4 ν μ π a b L L' k d o oo M D s s2 kd j j2 : Nat} {sc sc1 sc2 sc3 sc4 sc5 t t2 t3 t4 t5 : SCT} {e e2 e3 e4 e5 : List Nat × List Nat × Nat} {gd Rf Rg Zf Zg R1 Z1 own cs : Bool} {BC : MS → Prop} {v1 v2 v3 v4 v5 v6 v1c r ξ φ ca cb cc x y : Int32} {S : SG_M_behind} {NC : Nat → Prop} {CL CM CL1 : Int32 × Int32 × Int32 → Prop} {l lp lg : List Nat}
theorem STN_q (h : STQ m0 w0 K T Nk gd mB wB p n sc s m w q n2 sc2 X W Rf Zf CL) : STN m0 w0 K T Nk mB wB p n sc s m w q n2 sc2 X W Rf Zf CL := ⟨h.1, h.2.1, h.2.2.1, h.2.2.2.1, h.2.2.2.2.1⟩
theorem STN_tr (h : STN m0 w0 K T Nk mB wB p n sc s m w q n2 sc2 X W Rf Zf CL) (k : STQ m0 w0 K T Nk gd m w q n2 sc2 s2 m2 w2 p2 n3 sc3 Y W2 Rg Zg CM) : STN m0 w0 K T Nk mB wB p n sc (s + s2) m2 w2 p2 n3 sc3 (max X Y) (mrg q W W2) (Rf || Rg) (Zf || Zg) (fun x => CL x ∨ CM x) := by
  obtain ⟨a1, a2, a3, a4, a5⟩ := h
  obtain ⟨b1, b2, b3, b4, b5, b6, b7⟩ := k
  exact ⟨b1, ⟨by omega, b2.2.1, by omega, by omega⟩, KPO_tr a3 b3 a2.2.2.1, PCG_tr a4 b4, STW_tr2 a2.1 b2.1 a5 b5⟩
theorem STN_s (h : STN m0 w0 K T Nk mB wB p n sc s m w q n2 sc2 X W Rf Zf CL) (k : SMS w v) (hv : v.1 69 = w.1 69) : STN m0 w0 K T Nk mB wB p n sc s m v q n2 sc2 X W Rf Zf CL := ⟨RLP_s h.1 k hv, h.2.1, h.2.2.1, h.2.2.2.1, STW_s h.2.2.2.2 k⟩
theorem STN_ad (h : STN m0 w0 K T Nk mB wB p n sc s m w q n2 sc2 X W Rf Zf CL) (hl : q < T) (hk : K q ≠ 3) : STN m0 w0 K T Nk mB wB p n sc (s + 2) (advc m q) (adv w q) (q + 1) n2 sc2 X W Rf Zf CL := by
  obtain ⟨a1, a2, a3, a4, a5⟩ := h
  exact ⟨RLP_ad a1 hl, ⟨by omega, by unfold advc; rw [upI_ne (by decide)]; exact a2.2.1, a2.2.2.1, by omega⟩, a3, PCG_I a4 (Or.inr (Or.inr rfl)), STW_gap (STW_s a5 SMS_ad) ⟨Nat.le_refl _, by omega⟩ (fun j h1 h2 => absurd h2 (by omega)) (fun j h1 h2 => by rw [show j = q by omega]; exact hk)⟩
theorem STN_cl (hc : ∀ x, CL x ↔ CM x) (h : STN m0 w0 K T Nk mB wB p n sc s m w q n2 sc2 X W Rf Zf CL) : STN m0 w0 K T Nk mB wB p n sc s m w q n2 sc2 X W Rf Zf CM := ⟨h.1, h.2.1, h.2.2.1, h.2.2.2.1, STW_cl hc h.2.2.2.2⟩
theorem STN_add {a b c d f : Int32} (h : STN m0 w0 K T Nk mB wB p n sc (s + 1) m w q n2 sc2 X W Rf Zf CL) : STN m0 w0 K T Nk mB wB p n sc s (adN m n2 a b c d f) w q (n2 + 1) sc2 X W Rf Zf CL := by
  obtain ⟨a1, a2, a3, a4, a5⟩ := h
  exact ⟨RLP_add a1, ⟨a2.1, adN_n, by omega, by omega⟩, KPO_tr a3 adN_o a2.2.2.1, PCG_add a4, a5⟩
theorem STN_s2 (h : STN m0 w0 K T Nk mB wB p n sc s m w q n2 sc2 X W Rf Zf CL) (hs : s2 ≤ s) : STN m0 w0 K T Nk mB wB p n sc s2 m w q n2 sc2 X W Rf Zf CL := ⟨h.1, ⟨h.2.1.1, h.2.1.2.1, h.2.1.2.2.1, by have := h.2.1.2.2.2; omega⟩, h.2.2⟩
theorem STN_row (h : RWI N m0 w0 K T nm Nk own mB wB p0 n0 sc m w p l) (k : Kjc wB w) (nd : ND wB) : ∃ (n : Nat) (sc2 : SCT) (X : Nat) (W : Nat → Nat), STN m0 w0 K T Nk mB wB p0 n0 sc 1 m w p n sc2 X W false false (fun _ => False) ∧ PRW N K nm m n0 n own W l p0 p sc sc2 X ∧ p0 < p ∧ X ≤ 1400 := by
  obtain ⟨n, sc2, X, W, b0, b1, b2, b3, b4, b5, b6, b7, b8, b9, b10, b11, b12, b13⟩ := h
  obtain ⟨av, hav, hav2⟩ := nd
  obtain ⟨d1, d2, d3⟩ := PRW_hd b11 b0
  refine ⟨n, sc2, X, W, ⟨b1, ⟨by omega, b2.2.1, by omega, by omega⟩, b3, PCF_G b4, ⟨b5, b6.1, b7, b8, by rw [b9]; exact Iff.rfl, ?_, ⟨fun j hj => b10.1 j (by simp only [List.mem_cons, List.not_mem_nil, or_false] at hj ⊢; omega), fun j hj => k.2 j (by omega), fun j _ => by rw [k.2 74 (by omega)], fun j _ => by rw [k.2 76 (by omega)], fun i h1 h2 j _ => by rw [k.2 i (by omega)]⟩, av, av, ⟨hav, by rw [k.1 32 (by decide)]; exact hav, Nat.le_refl _, hav2⟩, fun x => ⟨fun ⟨j, h1, _⟩ => absurd h1 (by omega), False.elim⟩, fun j _ => ?_⟩⟩, b11, b2.1, b8.2⟩
  · rw [b10.1 72 (by decide)]
    exact ⟨fun z => ⟨z, rfl⟩, fun z => z.1⟩
  · rw [k.2 23 (by omega), k.2 25 (by omega), k.2 26 (by omega), k.2 27 (by omega)]
    exact ⟨rfl, fun _ => ⟨rfl, rfl, rfl⟩⟩
theorem I_6 (h : k ≤ 6) : decide (I (k : Nat) = 6) = decide (k = 6) := I_dn (by omega) (by decide) rfl
theorem cl_f (h : FLW w) : PK (fun w2 (_ : Int32) => FLW w2) (fb_M_clause_172 N (rc_M_behind N d) (gg_M_clause N (rc_M_behind N d) M) w v2 v5) := by
  have hz : Kfc w w := h
  refine Kf_pk (u0 := w) ?_
  obtain ⟨hF0, hF1, hF2, hF3, hF4, hF5, hF6, hF7, hF8, hF9, hF10, hF11, hF12, hF13, hF14, hF15, hF16⟩ := yf_rc_M_behind (u0 := w) (N := N) d
  repeat' (first | with_reducible assumption | with_reducible refine Kf_br ?_ ?_ | with_reducible refine Kf_bnd ?_ (fun _ _ _ => ?_) | with_reducible refine Kf_ck ?_ | with_reducible refine Kf_ltm ?_ (fun _ _ => ?_) | with_reducible refine Kf_some ?_ | with_reducible refine Kf_bo (fun _ => ?_) | with_reducible exact yf_fm_M_node (by assumption) | with_reducible exact yf_fm_M_pattern (by assumption) | with_reducible exact yf_fm_M_wrong (by assumption) | with_reducible exact yf_fm_M_rule (by assumption) | with_reducible exact yf_fm_M_isSign (by assumption) | with_reducible exact yf_fm_M_isWord (by assumption) | with_reducible exact yf_fm_M_takeSign (by assumption) | with_reducible exact yf_fm_M_takeWord (by assumption) | with_reducible exact yf_fm_M_needSign (by assumption) | with_reducible exact yf_fm_M_needWord (by assumption) | with_reducible exact yf_fm_M_opens (by assumption) | with_reducible exact yf_fm_M_boundIn (by assumption) | with_reducible exact yf_fr_M_found (by assumption) | with_reducible exact yf_fm_M_bind (by assumption) | with_reducible exact yf_fm_M_isUnderscore (by assumption) | with_reducible exact yf_fm_M_unbind (by assumption) | with_reducible exact yf_fm_M_term (by assumption) | with_reducible exact yf_fm_M_namePattern (by assumption) | with_reducible exact yf_fr_M_patternAt (by assumption) | with_reducible exact yf_fm_M_beginsUnit (by assumption) | with_reducible exact yf_fm_M_save (by assumption) | with_reducible exact yf_fm_M_addRoot (by assumption) | with_reducible exact yf_fm_M_level (by assumption) | with_reducible exact yf_fm_M_reduce (by assumption) | with_reducible exact yf_fm_M_takeBack (by assumption) | with_reducible exact yf_fm_M_forgetSaved (by assumption) | with_reducible exact yf_fr_M_last (by assumption) | with_reducible exact yf_fr_M_clause (by assumption) | with_reducible exact yf_fm_M_predefinedOf (by assumption) | with_reducible exact yf_fm_M_function0 (by assumption) | with_reducible exact yf_fm_M_program (by assumption) | with_reducible exact hF0 _ (by assumption) | with_reducible exact hF1 _ _ (by assumption) | with_reducible exact hF2 _ _ _ (by assumption) | with_reducible exact hF3 _ _ _ (by assumption) | with_reducible exact hF4 _ (by assumption) | with_reducible exact hF5 _ _ (by assumption) | with_reducible exact hF6 _ _ (by assumption) | with_reducible exact hF7 _ _ (by assumption) | with_reducible exact hF8 _ _ (by assumption) | with_reducible exact hF9 _ (by assumption) | with_reducible exact hF10 _ (by assumption) | with_reducible exact hF11 _ (by assumption) | with_reducible exact hF12 _ (by assumption) | with_reducible exact hF13 _ (by assumption) | with_reducible exact hF14 _ (by assumption) | with_reducible exact hF15 _ (by assumption) | with_reducible exact hF16 _ _ (by assumption) | with_reducible exact yf_fb_M_clause_183 (by assumption) hF0 hF1 hF2 hF3 hF4 hF5 hF6 hF7 hF8 hF9 hF10 hF11 hF12 hF13 hF14 hF15 hF16 (yf_gg_M_clause hF0 hF1 hF2 hF3 hF4 hF5 hF6 hF7 hF8 hF9 hF10 hF11 hF12 hF13 hF14 hF15 hF16 _) | with_reducible exact yf_fb_M_clause_172 (by assumption) hF0 hF1 hF2 hF3 hF4 hF5 hF6 hF7 hF8 hF9 hF10 hF11 hF12 hF13 hF14 hF15 hF16 (yf_gg_M_clause hF0 hF1 hF2 hF3 hF4 hF5 hF6 hF7 hF8 hF9 hF10 hF11 hF12 hF13 hF14 hF15 hF16 _) | with_reducible exact yf_fb_M_clause_134 (by assumption) hF0 hF1 hF2 hF3 hF4 hF5 hF6 hF7 hF8 hF9 hF10 hF11 hF12 hF13 hF14 hF15 hF16 (yf_gg_M_clause hF0 hF1 hF2 hF3 hF4 hF5 hF6 hF7 hF8 hF9 hF10 hF11 hF12 hF13 hF14 hF15 hF16 _) | with_reducible exact yf_fb_M_clause_103 (by assumption) hF0 hF1 hF2 hF3 hF4 hF5 hF6 hF7 hF8 hF9 hF10 hF11 hF12 hF13 hF14 hF15 hF16 (yf_gg_M_clause hF0 hF1 hF2 hF3 hF4 hF5 hF6 hF7 hF8 hF9 hF10 hF11 hF12 hF13 hF14 hF15 hF16 _) | with_reducible exact yf_fb_M_clause_75 (by assumption) hF0 hF1 hF2 hF3 hF4 hF5 hF6 hF7 hF8 hF9 hF10 hF11 hF12 hF13 hF14 hF15 hF16 (yf_gg_M_clause hF0 hF1 hF2 hF3 hF4 hF5 hF6 hF7 hF8 hF9 hF10 hF11 hF12 hF13 hF14 hF15 hF16 _) | with_reducible exact yf_fb_M_clause_0 (by assumption) hF0 hF1 hF2 hF3 hF4 hF5 hF6 hF7 hF8 hF9 hF10 hF11 hF12 hF13 hF14 hF15 hF16 (yf_gg_M_clause hF0 hF1 hF2 hF3 hF4 hF5 hF6 hF7 hF8 hF9 hF10 hF11 hF12 hF13 hF14 hF15 hF16 _) | with_reducible exact (yf_gg_M_clause hF0 hF1 hF2 hF3 hF4 hF5 hF6 hF7 hF8 hF9 hF10 hF11 hF12 hF13 hF14 hF15 hF16 _) _ _ _ _ (by assumption) | with_reducible refine Kf_ltv (fun _ => ?_) | with_reducible refine Kf_I ?_ (by decide) | with_reducible refine Kf_A ?_ | with_reducible refine Kf_J ?_ | with_reducible refine Kf_L ?_)
theorem cl4_f (h : FLW w) : PK (fun w2 (_ : Int32) => FLW w2) (fb_M_clause_134 N (rc_M_behind N d) (gg_M_clause N (rc_M_behind N d) M) w v2 v5) := by
  have hz : Kfc w w := h
  refine Kf_pk (u0 := w) ?_
  obtain ⟨hF0, hF1, hF2, hF3, hF4, hF5, hF6, hF7, hF8, hF9, hF10, hF11, hF12, hF13, hF14, hF15, hF16⟩ := yf_rc_M_behind (u0 := w) (N := N) d
  repeat' (first | with_reducible assumption | with_reducible refine Kf_br ?_ ?_ | with_reducible refine Kf_bnd ?_ (fun _ _ _ => ?_) | with_reducible refine Kf_ck ?_ | with_reducible refine Kf_ltm ?_ (fun _ _ => ?_) | with_reducible refine Kf_some ?_ | with_reducible refine Kf_bo (fun _ => ?_) | with_reducible exact yf_fm_M_node (by assumption) | with_reducible exact yf_fm_M_pattern (by assumption) | with_reducible exact yf_fm_M_wrong (by assumption) | with_reducible exact yf_fm_M_rule (by assumption) | with_reducible exact yf_fm_M_isSign (by assumption) | with_reducible exact yf_fm_M_isWord (by assumption) | with_reducible exact yf_fm_M_takeSign (by assumption) | with_reducible exact yf_fm_M_takeWord (by assumption) | with_reducible exact yf_fm_M_needSign (by assumption) | with_reducible exact yf_fm_M_needWord (by assumption) | with_reducible exact yf_fm_M_opens (by assumption) | with_reducible exact yf_fm_M_boundIn (by assumption) | with_reducible exact yf_fr_M_found (by assumption) | with_reducible exact yf_fm_M_bind (by assumption) | with_reducible exact yf_fm_M_isUnderscore (by assumption) | with_reducible exact yf_fm_M_unbind (by assumption) | with_reducible exact yf_fm_M_term (by assumption) | with_reducible exact yf_fm_M_namePattern (by assumption) | with_reducible exact yf_fr_M_patternAt (by assumption) | with_reducible exact yf_fm_M_beginsUnit (by assumption) | with_reducible exact yf_fm_M_save (by assumption) | with_reducible exact yf_fm_M_addRoot (by assumption) | with_reducible exact yf_fm_M_level (by assumption) | with_reducible exact yf_fm_M_reduce (by assumption) | with_reducible exact yf_fm_M_takeBack (by assumption) | with_reducible exact yf_fm_M_forgetSaved (by assumption) | with_reducible exact yf_fr_M_last (by assumption) | with_reducible exact yf_fr_M_clause (by assumption) | with_reducible exact yf_fm_M_predefinedOf (by assumption) | with_reducible exact yf_fm_M_function0 (by assumption) | with_reducible exact yf_fm_M_program (by assumption) | with_reducible exact hF0 _ (by assumption) | with_reducible exact hF1 _ _ (by assumption) | with_reducible exact hF2 _ _ _ (by assumption) | with_reducible exact hF3 _ _ _ (by assumption) | with_reducible exact hF4 _ (by assumption) | with_reducible exact hF5 _ _ (by assumption) | with_reducible exact hF6 _ _ (by assumption) | with_reducible exact hF7 _ _ (by assumption) | with_reducible exact hF8 _ _ (by assumption) | with_reducible exact hF9 _ (by assumption) | with_reducible exact hF10 _ (by assumption) | with_reducible exact hF11 _ (by assumption) | with_reducible exact hF12 _ (by assumption) | with_reducible exact hF13 _ (by assumption) | with_reducible exact hF14 _ (by assumption) | with_reducible exact hF15 _ (by assumption) | with_reducible exact hF16 _ _ (by assumption) | with_reducible exact yf_fb_M_clause_183 (by assumption) hF0 hF1 hF2 hF3 hF4 hF5 hF6 hF7 hF8 hF9 hF10 hF11 hF12 hF13 hF14 hF15 hF16 (yf_gg_M_clause hF0 hF1 hF2 hF3 hF4 hF5 hF6 hF7 hF8 hF9 hF10 hF11 hF12 hF13 hF14 hF15 hF16 _) | with_reducible exact yf_fb_M_clause_172 (by assumption) hF0 hF1 hF2 hF3 hF4 hF5 hF6 hF7 hF8 hF9 hF10 hF11 hF12 hF13 hF14 hF15 hF16 (yf_gg_M_clause hF0 hF1 hF2 hF3 hF4 hF5 hF6 hF7 hF8 hF9 hF10 hF11 hF12 hF13 hF14 hF15 hF16 _) | with_reducible exact yf_fb_M_clause_134 (by assumption) hF0 hF1 hF2 hF3 hF4 hF5 hF6 hF7 hF8 hF9 hF10 hF11 hF12 hF13 hF14 hF15 hF16 (yf_gg_M_clause hF0 hF1 hF2 hF3 hF4 hF5 hF6 hF7 hF8 hF9 hF10 hF11 hF12 hF13 hF14 hF15 hF16 _) | with_reducible exact yf_fb_M_clause_103 (by assumption) hF0 hF1 hF2 hF3 hF4 hF5 hF6 hF7 hF8 hF9 hF10 hF11 hF12 hF13 hF14 hF15 hF16 (yf_gg_M_clause hF0 hF1 hF2 hF3 hF4 hF5 hF6 hF7 hF8 hF9 hF10 hF11 hF12 hF13 hF14 hF15 hF16 _) | with_reducible exact yf_fb_M_clause_75 (by assumption) hF0 hF1 hF2 hF3 hF4 hF5 hF6 hF7 hF8 hF9 hF10 hF11 hF12 hF13 hF14 hF15 hF16 (yf_gg_M_clause hF0 hF1 hF2 hF3 hF4 hF5 hF6 hF7 hF8 hF9 hF10 hF11 hF12 hF13 hF14 hF15 hF16 _) | with_reducible exact yf_fb_M_clause_0 (by assumption) hF0 hF1 hF2 hF3 hF4 hF5 hF6 hF7 hF8 hF9 hF10 hF11 hF12 hF13 hF14 hF15 hF16 (yf_gg_M_clause hF0 hF1 hF2 hF3 hF4 hF5 hF6 hF7 hF8 hF9 hF10 hF11 hF12 hF13 hF14 hF15 hF16 _) | with_reducible exact (yf_gg_M_clause hF0 hF1 hF2 hF3 hF4 hF5 hF6 hF7 hF8 hF9 hF10 hF11 hF12 hF13 hF14 hF15 hF16 _) _ _ _ _ (by assumption) | with_reducible refine Kf_ltv (fun _ => ?_) | with_reducible refine Kf_I ?_ (by decide) | with_reducible refine Kf_A ?_ | with_reducible refine Kf_J ?_ | with_reducible refine Kf_L ?_)
theorem cl_no {A : Option (MS × (Int32 ⊕ Nat))} (hw : WP w K T p) (h0 : w.1 67 = 0) (k26 : K p ≠ 26) (h : ∀ M, PP R A (fb_M_clause_183 N S (gg_M_clause N S M) w v2)) : PP R A (fb_M_clause_172 N S (gg_M_clause N S M) w v2 v5) := by
  unfold fb_M_clause_172
  rw [tkS_e (k := 26) (s := 6) hw h0 (by decide) rfl, if_neg k26, bnd_s]
  cases M with
  | zero => exact pp_nr
  | succ M =>
    show PP R A (fb_M_clause_75 N S (gg_M_clause N S M) w v2 v5 0)
    unfold fb_M_clause_75
    rw [show decide ((0 : Int32) = 0) = true from rfl, br_tq]
    exact h M
theorem clp {SC : SF_Pa_matched} {fC : MS → Int32 → Option (MS × (Int32 ⊕ Nat))} (c : CTZ m0 w0 K T nm Nk) (c45 : ∀ p, p ≤ T → K p ≠ 45) (hn0 : n0 ≤ 2 * p0) (hP : PTS N m0 w0 K T nm Nk true 1 (SC.2.2.2.2.2.2.2.2.2.2.2.2.2.2.2.2.2.1) ((rc_M_rowPattern N 60).2))
    (hNo : ∀ (M : Nat) (m w : MS) (p : Nat) (l : List Nat), RWI N m0 w0 K T nm Nk true mB wB p0 n0 sc m w p l → Kjc wB w → w.2.2.1 41 v2.toNatClampNeg = I (l.length : Nat) → K p ≠ 26 → l.length ≤ 6 → PP R (fC m (I ((l.headD 0 : Nat) : Int))) (fb_M_clause_183 N (rc_M_behind N d) (gg_M_clause N (rc_M_behind N d) M) w v2))
    (hF : ∀ (m : MS) (p : Nat) (φ : Int32), CP m K T p → K p = 26 → RFS (fC m φ)) (hW : ∀ m k w r, FLW w → R m (.inr k) w r) : ∀ (j k M M' : Nat) (m x : MS) (p : Nat) (l : List Nat) (v5 : Int32), k + j = 6 → 1 ≤ k → l.length = k → RWI N m0 w0 K T nm Nk true mB wB p0 n0 sc m x p l → Kjc wB x → x.2.2.1 41 v2.toNatClampNeg = I (k : Nat) → PP R (bTm (hg_Pa_row N SC M' m 1 6 (I ((l.headD 0 : Nat) : Int)) (I ((l.getLastD 0 : Nat) : Int)) (I (k : Nat))) fC) (cl134 N (rc_M_behind N d) M x v2 v5) := by
  intro j
  induction j with
  | zero =>
    intro k M M' m x p l v5 hk hk1 hl hI kj h41
    have hk : k = 6 := by omega
    subst hk
    cases M' with
    | zero => exact pp_nl
    | succ M' =>
    obtain ⟨n, sc1, X1, W1, b0, b1, -⟩ := id hI
    have hc := RLP_c c b1
    have hw := RLP_w c b1
    have h0 := b1.2.2.2.2.2.2
    show PP R (bTm (hb_Pa_row_23 N SC (hg_Pa_row N SC M') m 1 6 (I ((l.headD 0 : Nat) : Int)) (I ((l.getLastD 0 : Nat) : Int)) (I ((6 : Nat) : Int))) fC) _
    unfold hb_Pa_row_23 hb_Pa_row_78 cl134
    rw [h41, show decide ((6 : Int32) ≤ I ((6 : Nat) : Int)) = true from rfl, br_tq, bTm_l, show decide (I ((6 : Nat) : Int) = 6) = true from rfl, br_tq, isS_e (k := 26) (s := 6) hw (by decide) rfl, bnd_s]
    by_cases k26 : K p = 26
    · rw [if_pos k26, show decide ((1 : Int32) = 0) = false from rfl, br_fq]
      refine pp_rf (hF m p _ hc k26) (fun mm => ?_)
      exact pk_bnd (fun v r z => pk_mo (cl_f (wrong_s (u0 := x) (by decide) v r z)) (fun _ _ z => hW _ _ _ _ z))
    · rw [if_neg k26, show decide ((0 : Int32) = 0) = true from rfl, br_tq]
      exact cl_no hw h0 k26 (fun M => hNo M m x p l hI kj (by rw [hl]; exact h41) k26 (by omega))
  | succ j ih =>
    intro k M M' m x p l v5 hk hk1 hl hI kj h41
    cases M' with
    | zero => exact pp_nl
    | succ M' =>
    obtain ⟨n, sc1, X1, W1, b0, b1, b2, b3, b4, b5, b6, b7, b8, b9, b10, b11, b12, b13⟩ := id hI
    have hc := RLP_c c b1
    have hw := RLP_w c b1
    have h0 := b1.2.2.2.2.2.2
    have pT := b1.2.2.2.2.1
    have k46 := hc.1.1.k46 hc.2.2
    have T4 := c.1.1.1
    obtain ⟨d1, d2, d3⟩ := PRW_hd b11 b0
    show PP R (bTm (hb_Pa_row_23 N SC (hg_Pa_row N SC M') m 1 6 (I ((l.headD 0 : Nat) : Int)) (I ((l.getLastD 0 : Nat) : Int)) (I (k : Nat))) fC) _
    unfold hb_Pa_row_23 hb_Pa_row_78 cl134
    have d6 : decide ((6 : Int32) ≤ I (k : Nat)) = false := by
      rw [show (6 : Int32) = I ((6 : Nat) : Int) from rfl, decI (by omega) (by omega) (by omega) (by omega)]
      exact decide_eq_false (by omega)
    rw [h41, d6, br_fq, I_6 (by omega), decide_eq_false (p := k = 6) (by omega), br_fq, look_e hc (c45 _ pT), bTm_l, I_dn (a := K p) (b := 26) (s := 26) (by omega) (by decide) rfl]
    by_cases k26 : K p = 26
    · rw [decide_eq_true k26, br_tq, hc.2.1, i_suc, show decide ((1 : Int32) = 0) = false from rfl]
      show PP R (bTm (br false _ (bTm (SC.2.2.2.2.2.2.2.2.2.2.2.2.2.2.2.2.2.1 (advc m p)) _)) fC) _
      rw [br_fq, bTm_as]
      unfold fb_M_clause_172
      rw [tkS_e (k := 26) (s := 6) hw h0 (by decide) rfl, if_pos k26, bnd_s]
      cases M with
      | zero => exact pp_nr
      | succ M =>
        show PP R _ (fb_M_clause_75 N (rc_M_behind N d) (gg_M_clause N (rc_M_behind N d) M) (adv x p) v2 v5 1)
        unfold fb_M_clause_75 fb_M_clause_103
        have a67 : (adv x p).1 67 = 0 := by unfold adv; rw [upI_ne (by decide)]; exact h0
        have a41 : (adv x p).2.2.1 41 v2.toNatClampNeg = I (k : Nat) := h41
        rw [show decide ((1 : Int32) = 0) = false from rfl, br_fq, decide_eq_true a67, br_tq, a41, I_6 (by omega), decide_eq_false (p := k = 6) (by omega), br_fq]
        refine r_ck (fun _ => ?_)
        have kja : Kjc wB (adv x p) := Kj_I kj (by decide)
        refine pp_bTn (pp_kr (RWI_next (N := N) c hn0 hI k26 hP) (pk_and (yj_fr_M_patternAt (u0 := wB) (v1 := 1) (N := N) kja) (yv_fr_M_patternAt (u0 := adv x p) (v1 := 1) (N := N) Kv_rf))) (fun m2 ε w2 r q => ?_) (fun m2 kk w2 r q => ?_)
        · obtain ⟨⟨ν, p3, e1, q⟩, kj2, k41⟩ := q
          rw [e1]
          unfold hb_Pa_row_67 hm_Pa_chain hb_Pa_chain_0
          have n8 : l.getLastD 0 ≤ 8015 := by omega
          rw [bnd_as, tnI (n := l.getLastD 0) rfl (by omega), i_suc]
          refine l_bnd (pk_ck (fun _ => pk_lt (pk_some ?_)))
          have go : ∀ y : MS, (∀ k, y.1 k = w2.1 k) → (∀ k, k ≠ 37 → k ≠ 40 → y.2.2.1 k = w2.2.2.1 k) → PP R (bTm (hg_Pa_row N SC M' (upA m2 21 (upd (m2.2.2.1 21) (l.getLastD 0) (I (ν : Nat)))) 1 6 (I ((l.headD 0 : Nat) : Int)) (I (ν : Nat)) (I ((k + 1 : Nat) : Int))) fC) (fb_M_clause_134 N (rc_M_behind N d) (gg_M_clause N (rc_M_behind N d) M) y v2 r) := fun y yi yr => by
            unfold fb_M_clause_134
            refine r_ck (fun _ => r_ck (fun _ => r_lt (r_ck (fun _ => ?_))))
            have k41 : w2.2.2.1 41 = (adv x p).2.2.1 41 := k41
            have y41 : y.2.2.1 41 v2.toNatClampNeg + 1 = I ((k + 1 : Nat) : Int) := by rw [yr 41 (by decide) (by decide), k41, a41, i_suc]
            rw [y41]
            generalize hz : upA y 41 (upd (y.2.2.1 41) v2.toNatClampNeg (I ((k + 1 : Nat) : Int))) = z
            have zi : ∀ k, z.1 k = w2.1 k := fun k => by rw [← hz]; exact yi k
            have zr : ∀ k, k ≠ 37 → k ≠ 40 → k ≠ 41 → z.2.2.1 k = w2.2.2.1 k := fun k h1 h2 h3 => by rw [← hz, upA_no h3]; exact yr k h1 h2
            have z41 : z.2.2.1 41 v2.toNatClampNeg = I ((k + 1 : Nat) : Int) := by rw [← hz, upA_at, upd_at]
            clear hz
            have := ih (k + 1) M M' _ z p3 (l ++ [ν]) r (by omega) (by omega) (by rw [List.length_append, List.length_singleton]; omega) (q z ⟨fun k _ => zi k, fun k hk => zr k (by omega) (by omega) (by omega)⟩ (zi 69) (zi 66) (fun k hk => zr k (by omega) (by omega) (by omega))) ⟨fun k hk => (zi k).trans (kj2.1 k hk), fun k hk => (zr k (by omega) (by omega) (by omega)).trans (kj2.2 k hk)⟩ z41
            rw [headD_snoc b0, getLastD_snoc] at this
            exact this
          refine r_br (fun _ => r_ck (fun _ => r_lt (go _ (fun _ => rfl) (fun k h1 h2 => upA_no h2)))) (fun _ => r_ck (fun _ => r_lt (go _ (fun _ => rfl) (fun k h1 h2 => upA_no h1))))
        · have q0 : FLW w2 := q.1
          refine pk_mo (Q := fun w2 (_ : Int32) => FLW w2) ?_ (fun v r hv => hW _ _ v r hv)
          exact pk_br (fun _ => pk_ck (fun _ => pk_lt (cl4_f q0))) (fun _ => pk_ck (fun _ => pk_lt (cl4_f q0)))
    · rw [decide_eq_false k26, br_fq, bTm_l]
      exact cl_no hw h0 k26 (fun M => hNo M m x p l hI kj (by rw [hl]; exact h41) k26 (by omega))
end
