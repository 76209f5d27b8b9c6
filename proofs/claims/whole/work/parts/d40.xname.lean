/-! expressions: STRINGS, NAMES, both -/
set_option maxRecDepth 100000
/-- a rule is told -/
def RULd (w v : MS) : Prop := (∀ k, k ≠ 71 → k ≠ 72 → v.1 k = w.1 k) ∧ v.2 = w.2
section
variable {α β : Type} {m0 w0 m w m2 w2 m3 w3 v u : MS} {K nm Nk W W2 : Nat → Nat} {N T a b c cm cm2 cm3 q r s lo mid hi i j f f2 n k p σ tk x : Nat} {Q Q2 Q3 Q4 : Nat → Nat} {sc sc2 sc3 t : SCT} {e : List Nat × List Nat × Nat} {g lst : Bool} {L L1 L2 : List Nat} {fof cvr : Int → Int → Int} {C : Nat → Int} {P R : Nat → Nat → Int} {J : Nat → Int64} {H O : List Nat} {y : Option (Nat × Nat × Nat)} {S : SF_Cm_fun} {S2 : SG_M_behind} {v2 : Int32} {i1 : Int} {A' : Option (MS × α)} {RR : MS → α → MS → β → Prop} {F : MS → Option (MS × β)}
theorem RUL_rf : RULd w w := ⟨fun _ _ _ => rfl, rfl⟩
theorem RUL_x (h : RULd w v) (hR : XRS w0 T w p Q sc) : XRS w0 T v p Q sc := by
  have e := XRS_n (v := v) (n := p) (i := Q 32) hR (fun k hk => h.1 k (by rintro rfl; revert hk; decide) (by rintro rfl; revert hk; decide)) (fun k _ => by rw [show v.2.2.1 = w.2.2.1 by rw [h.2]]) (by rw [h.1 69 (by decide) (by decide)]; exact hR.1.2.1.1) hR.1.2.1.2 (by rw [h.1 32 (by decide) (by decide)]; exact (XRS_q hR).1) (XRS_q hR).2
  have eq : qst Q 32 (Q 32) = Q := funext (fun j => by
    by_cases z : j = 32
    · rw [z, qst_at]
    · rw [qst_no z])
  rw [eq] at e
  exact e
theorem r_rul {kk tt : Int32} {G : MS → Unit → Option (MS × β)} (h : ∀ v, RULd w v → PP RR A' (G v ())) : PP RR A' (bnd (fm_M_rule N w kk tt) G) := by
  have h31 : PP RR A' (bnd (fb_M_rule_31 N () w kk tt) G) := by
    unfold fb_M_rule_31 fb_M_rule_41
    rw [lt_e, lt_e, bnd_s]
    exact h _ ⟨fun k h1 h2 => by rw [upI_ne h1, upI_ne h2], rfl⟩
  have h41 : PP RR A' (bnd (fb_M_rule_41 N () w) G) := by
    unfold fb_M_rule_41
    rw [bnd_s]
    exact h _ RUL_rf
  show PP RR A' (bnd (fb_M_rule_0 N () w kk tt) G)
  unfold fb_M_rule_0
  rw [bnd_br, bnd_br, bnd_br, bnd_br]
  exact r_br (fun _ => h31) (fun _ => r_br (fun _ => h31) (fun _ => r_br (fun _ => r_br (fun _ => h41) (fun _ => h31)) (fun _ => h41)))
/-- in a GUARD a rule is told first -/
theorem r_gd {b : Bool} {kk tt : Int32} (h : ∀ v, RULd w v → PP RR A' (F v)) : PP RR A' (br b (F w) (bnd (fm_M_rule N w kk tt) (fun u _ => F u))) := r_br (fun _ => h w RUL_rf) (fun _ => r_rul h)
theorem NOD_r (h : NOD v u i) (k : RULd w v) : NOD w u i := NOD_w h (fun j hj => k.1 j (by rintro rfl; revert hj; decide) (by rintro rfl; revert hj; decide)) (by rw [k.2]) (by rw [k.2])
/-- alone() at a STRING -/
theorem al_str (c : CTZ m0 w0 K T nm Nk) (hR : XRS w0 T w lo Q sc) (hk : K lo = 4) {RR : MS → α → MS → Int32 → Prop} (hh : ∀ v, Q 32 < 16000 → lo < T → NOD w v (Q 32) → v.1 69 = I ((lo + 1 : Nat) : Int) → A v 23 (Q 32) = 2 → A v 25 (Q 32) = A w0 7 lo → A v 28 (Q 32) = -1 → PP RR A' (some (v, I (Q 32 : Nat)))) : PP RR A' (km_M_alone N S2 w (I (lo : Nat))) := by
  have hw := XRS_wp c hR
  have hl : lo < T := c.2.1.1.lt hR.1.2.1.2 (by omega) (by omega)
  have t4 := c.2.1.1.1
  obtain ⟨a, b, -⟩ := tkd_6 c hR
  have s4 : decide (w.2.2.1 6 lo = 4) = decide (K lo = 1) := srt_dc hw srK_4
  have s1 : decide (w.2.2.1 6 lo = 1) = decide (K lo = 2) := srt_dc hw srK_1
  have s5 : decide (w.2.2.1 6 lo = 5) = decide (K lo = 4) := srt_dc hw srK_5
  unfold km_M_alone kb_M_alone_0
  rw [b, s4, s1, s5]
  refine r_ck (fun _ => ?_)
  rw [decide_eq_false (by omega), br_f]
  refine r_ck (fun _ => ?_)
  rw [decide_eq_false (by omega), br_f]
  refine r_ck (fun _ => ?_)
  rw [decide_eq_true hk, br_t]
  refine r_gd (F := fun u => kb_M_alone_114 N S2 () u (I (lo : Nat))) (fun w1 hr => ?_)
  have hR1 := RUL_x hr hR
  obtain ⟨n1, n2⟩ := XRS_q hR1
  show PP RR A' (kb_M_alone_114 N S2 () w1 (I (lo : Nat)))
  unfold kb_M_alone_114
  refine r_nod n1 n2 rfl (nsh (by omega)) (fun h16 => ?_)
  have d0 : NOD w1 (nwD w1 (Q 32) 2 (I (lo : Nat))) (Q 32) := NOD_0 n1
  have d1 := nwD_at (w := w1) (i := Q 32) (k := 2) (t := I (lo : Nat))
  have d2 : (nwD w1 (Q 32) 2 (I (lo : Nat))).1 69 = I (lo : Nat) := by rw [nwD_i (by decide)]; exact hR1.1.2.1.1
  have d4 : (nwD w1 (Q 32) 2 (I (lo : Nat))).2.2.1 7 lo = w0.2.2.1 7 lo := by rw [nwD_r (by decide), XRS_7 hR1]
  generalize nwD w1 (Q 32) 2 (I (lo : Nat)) = u at d0 d1 d2 d4
  rw [d2, i_nt (p := lo) (by omega), i_nt2 (p := Q 32) (by omega), d4]
  refine r_ck (fun _ => r_ck (fun _ => r_lt (r_lt ?_)))
  unfold kb_M_alone_361
  have d5 : NOD w1 (upA u 25 (upd (u.2.2.1 25) (Q 32) (w0.2.2.1 7 lo))) (Q 32) := NOD_A d0 (by decide)
  refine hh _ h16 hl (NOD_r (NOD_I d5 (by decide) (by decide)) hr) (by rw [upI_at]; show u.1 69 + 1 = _; rw [d2, i_suc]) ?_ ?_ ?_
  · show ((upA u 25 _).2.2.1 23 (Q 32)).toInt = 2
    rw [upA_no (by decide), d1.1]; rfl
  · show ((upA u 25 _).2.2.1 25 (Q 32)).toInt = _
    rw [upA_at, upd_at]; rfl
  · show ((upA u 25 _).2.2.1 28 (Q 32)).toInt = _
    rw [upA_no (by decide), d1.2.2.2.2.2.1]; rfl
/-- a STRING -/
theorem xl_str (c : CTZ m0 w0 K T nm Nk) (cv : CTV m0 w0 K T) (hC : XCS m0 nm m a cm sc g) (hR : XRS w0 T w lo Q sc) (hq : Q 56 = q) (hn : n ≤ 8015) (hlf : LFc m0 n lo) (hk : K lo = 4) : PP (XZ m0 w0 K T nm Nk fof cvr lst g lo (lo + 1) a cm q q Q sc m w) (jm_Cm_expression N S m (I (n : Nat)) v2) (km_M_alone N S2 w (I (lo : Nat))) := by
  obtain ⟨l16, -, -, l17, l18⟩ := lf_7 c hlf hR.1.2.1.2
  have fr := XCS_fr hC
  have t4 := c.2.1.1.1
  refine al_str c hR hk (fun v h16 hl hN h69 r23 r25 r28 => ?_)
  obtain ⟨fr0, s0, b, l, s1, s2, s3, s4, s5, s6, s7, s8, s9⟩ := (cv lo hl).2.2 hk
  refine exd_4 hn (tre fr (by decide) (v := 4) (l16.trans (by rw [hk]; rfl))) ?_
  refine l_ntg (tk := lo) hC.2 (tre fr (by decide) l17) (by omega) (fun hg => ?_)
  refine l_put hC.1.2.2.1.1 hC.1.2.2.1.2.2 (fun ha => ?_)
  have h1 := XCS_put (x := 2) hC ha
  have e18 : A m0 18 n = ((fr0 : Nat) : Int) := by
    rw [l18]
    show (m0.2.2.1 7 lo).toInt = _
    rw [s1]
    exact I_ti (by omega) (by omega)
  refine l_bnd (pk_mo (cs_p h1.1 (by omega) e18 s6 s7 s8 s9) (fun m2 _ h => ?_))
  obtain ⟨p1, p2, p3, p4, p5⟩ := h
  have hm2 : XCS m0 nm m2 (a + 1 + 1 + l) cm sc g := ⟨p1, by rw [p2.1 712 (by decide) (by decide)]; exact h1.2⟩
  unfold jb_Cm_expression_359
  have fx : XFC m m2 a q q (sc.length - 1) := XFC_tr (XFC_put XFC_rf (Nat.le_refl a)) (XFC_P p2) (by omega) (Nat.le_refl _) (Nat.le_refl _)
  refine pp_end ⟨a + 1 + 1 + l, cm, qst Q 32 (Q 32 + 1), sc, Q 32, 2, [], rfl, ⟨Nat.le_refl _, by rw [qst_at]; omega⟩, XT_nod hC hR hq ⟨by omega, hl⟩ (fun j j1 j2 => ?_) (by omega) hm2 fx ?_ hN rfl h16 h69 (fun n hn => by cases hn) (fun C P R J H fi hx => ⟨fun u u1 u2 => by omega, fun y hy hr => ?_⟩), ⟨by omega, by omega⟩, RTd_1 r28 (by rw [r23]; decide) rfl ⟨Nat.le_refl _, by rw [qst_at]; omega⟩, fun n hn => by cases hn⟩
  · rw [show j = lo by omega]; omega
  · rw [p3, ptc_r (by decide)]
  · have gc := fi.1
    have ro : ∀ k, 23 ≤ k ∧ k ≤ 31 → k ≠ 27 ∧ k ≠ 29 ∧ k ≠ 30 → R k (Q 32) = A v k (Q 32) := fun k k1 k2 => FIN_R fi k1 k2 ⟨Nat.le_refl _, by rw [qst_at]; omega⟩
    obtain ⟨b1, b2⟩ := XB c.2.2.1 hC hR hx h16
    obtain ⟨d, hd⟩ := hr
    rw [qst_at] at hd
    have gr := fi.2.2.1
    have c0 : C a = 2 := by
      rw [gc a (Nat.le_refl _) (by omega)]
      show (m2.2.2.1 23 a).toInt = 2
      rw [p2.2.2.1 a (by omega), ptc_n]; rfl
    refine cr_1 b1 b2 ⟨d, Or.inr (Or.inl ⟨(ro 23 (by decide) (by decide)).trans r23, c0, l, ⟨s0, b, ?_, ?_, ?_, ?_, fun k hk => ?_⟩, ?_⟩)⟩
    · rw [ro 25 (by decide) (by decide), r25]
      show (w0.2.2.1 7 lo).toInt = _
      rw [s2]
      exact I_ti (by omega) (by omega)
    · rw [gr 19 s0 (by decide)]; exact s4
    · rw [gr 19 (s0 + 1) (by decide)]; exact s5
    · rw [gc (a + 1) (by omega) (by omega)]; exact p4
    · rw [gc (a + 1 + 1 + k) (by omega) (by omega), p5 k hk, gr 18 (b + k) (by decide)]
    · rw [show a + 2 + l = a + 1 + 1 + l by omega]; exact hd
/-- the names held change, there nothing does -/
theorem XCS_hld (h : XCS m0 nm m a cm sc g) : XCS m0 nm m a cm (hld x sc) g := by
  obtain ⟨⟨h1, h2, h3, h4, h5, h6, h7⟩, h8⟩ := h
  refine ⟨⟨h1, CNs_hld h2, h3, h4, by rw [hld_len]; exact h5, h6, ?_⟩, h8⟩
  have : (hdS (hld x sc)).1 = (hdS sc).1 := by
    cases sc with
    | nil => rfl
    | cons e t =>
      unfold hld
      split
      · rfl
      · split <;> rfl
  rw [this]; exact h7
end
