/-! expressions: NAMES, both; a leaf -/
set_option maxRecDepth 100000
section
variable {α β : Type} {m0 w0 m w m2 w2 m3 w3 v u : MS} {K nm Nk W W2 : Nat → Nat} {N T a b c cm cm2 cm3 q r s lo mid hi i j f f2 n k p σ tk x : Nat} {Q Q2 Q3 Q4 : Nat → Nat} {sc sc2 sc3 t : SCT} {e : List Nat × List Nat × Nat} {g lst : Bool} {L L1 L2 : List Nat} {fof cvr : Int → Int → Int} {C : Nat → Int} {P R : Nat → Nat → Int} {J : Nat → Int64} {H O : List Nat} {y : Option (Nat × Nat × Nat)} {S : SF_Cm_fun} {S2 : SG_M_behind} {v2 : Int32} {i1 : Int} {A' : Option (MS × α)} {RR : MS → α → MS → β → Prop} {F : MS → Option (MS × β)}
/-- what alone() leaves at a NAME -/
def ANq (w0 : MS) (T : Nat) (x lo : Nat) (Q : Nat → Nat) (sc : SCT) (w v : MS) : Prop := XRS w0 T v (lo + 1) (qst Q 32 (Q 32 + 1)) (hld x sc) ∧ XRF w v Q (qst Q 32 (Q 32 + 1)) ∧ A v 23 (Q 32) = 3 ∧ A v 28 (Q 32) = -1 ∧ LKt (hld x sc) x (A v 25 (Q 32))
/-- alone() at a NAME -/
theorem al_nam (c : CTZ m0 w0 K T nm Nk) (hR : XRS w0 T w lo Q (e :: t)) (hk : K lo = 3) (h0 : nm (Nk lo) ≠ 0) (hf : fnb (Nk lo) (e :: t) = true) {RR : MS → α → MS → Int32 → Prop} (hh : ∀ v, Q 32 < 16000 → lo < T → ANq w0 T (Nk lo) lo Q (e :: t) w v → PP RR A' (some (v, I (Q 32 : Nat)))) : PP RR A' (km_M_alone N S2 w (I (lo : Nat))) := by
  have hw := XRS_wp c hR
  have hl : lo < T := c.2.1.1.lt hR.1.2.1.2 (by omega) (by omega)
  have t4 := c.2.1.1.1
  obtain ⟨-, c7, cx, cu⟩ := c.2.2.2 lo hl hk
  obtain ⟨a, b, -⟩ := tkd_6 c hR
  obtain ⟨n1, n2⟩ := XRS_q hR
  have s4 : decide (w.2.2.1 6 lo = 4) = decide (K lo = 1) := srt_dc hw srK_4
  have s1 : decide (w.2.2.1 6 lo = 1) = decide (K lo = 2) := srt_dc hw srK_1
  have s5 : decide (w.2.2.1 6 lo = 5) = decide (K lo = 4) := srt_dc hw srK_5
  have s2 : decide (w.2.2.1 6 lo = 2) = decide (K lo = 3) := srt_dc hw srK_2
  unfold km_M_alone kb_M_alone_0
  rw [b, s4, s1, s5, s2]
  refine r_ck (fun _ => ?_)
  rw [decide_eq_false (by omega), br_f]
  refine r_ck (fun _ => ?_)
  rw [decide_eq_false (by omega), br_f]
  refine r_ck (fun _ => ?_)
  rw [decide_eq_false (by omega), br_f]
  refine r_ck (fun _ => ?_)
  rw [decide_eq_true hk, br_t]
  refine r_nod n1 n2 rfl (nsh (by omega)) (fun h16 => ?_)
  have d0 : NOD w (nwD w (Q 32) 3 (I (lo : Nat))) (Q 32) := NOD_0 n1
  have d1 := nwD_at (w := w) (i := Q 32) (k := 3) (t := I (lo : Nat))
  have d2 : (nwD w (Q 32) 3 (I (lo : Nat))).1 69 = I (lo : Nat) := by rw [nwD_i (by decide)]; exact hR.1.2.1.1
  have d4 : (nwD w (Q 32) 3 (I (lo : Nat))).2.2.1 7 lo = I (Nk lo : Nat) := by rw [nwD_r (by decide), XRS_7 hR]; exact c7
  have d6 : XRS w0 T (nwD w (Q 32) 3 (I (lo : Nat))) lo (qst Q 32 (Q 32 + 1)) (e :: t) := XRS_n hR d0.1 (fun k hk => funext (fun j => d0.2.2.1 k j (by omega))) d2 hR.1.2.1.2 d0.2.1 (by omega)
  generalize nwD w (Q 32) 3 (I (lo : Nat)) = u at d0 d1 d2 d4 d6
  have hu : UND u (Nk lo) ↔ nm (Nk lo) = 0 := by
    rw [← cu]
    unfold UND
    rw [d6.1.1.2 16 (by decide), d6.1.1.2 15 (by decide)]
  rw [d2]
  cases hx : fm_M_isUnderscore N u (I (lo : Nat)) with
  | none => exact pp_nr
  | some z =>
    obtain ⟨z1, z2⟩ := z
    obtain ⟨rfl, q⟩ := und_p (N := N) cx (by omega) d4 z1 z2 hx
    rcases q with ⟨q1, q2⟩ | ⟨q1, q2⟩
    · exact absurd (hu.mp q2) h0
    subst q1
    have hn := d6.1.2.2.2.1
    have h65 : z1.1 65 = I (t.length : Nat) := hn.1
    rw [bnd_s, show decide ((0 : Int32) = 0) = true from rfl, br_t, d2, i_nt (p := lo) (by omega), d4, h65]
    refine r_ck (fun _ => ?_)
    cases hy : fr_M_found N z1 (I (t.length : Nat)) (I (Nk lo : Nat)) with
    | none => exact pp_nr
    | some y =>
      obtain ⟨y1, y2⟩ := y
      have fd := fnx_d (N := N) cx 30 (e :: t) z1 hn.2.2.1 d6.1.2.2.2.2.1 hn.2.2.2 (fun z => by cases z) hn.2.1.2 y1 y2 hy
      have f9 := yv9_fr_M_found (u0 := z1) Kv9_rf y1 y2 hy
      rw [bnd_s]
      rcases fd with ⟨e1, e2, e3⟩ | ⟨e1, e2, e3, e4, e5, e6, i, e7, e8⟩
      · rw [hf] at e3; cases e3
      unfold kb_M_alone_201 kb_M_alone_213 kb_M_alone_361
      rw [decide_eq_false e1, br_f, i_nt2 (p := Q 32) (by omega)]
      refine r_ck (fun _ => r_lt (r_lt ?_))
      have y69 : (upA y1 25 (upd (y1.2.2.1 25) (Q 32) y2)).1 69 + 1 = I ((lo + 1 : Nat) : Int) := by
        show y1.1 69 + 1 = _
        rw [e3.1 69, d2, i_suc]
      rw [y69]
      have rn : RNs y1 (hld (Nk lo) (e :: t)) := ⟨by rw [hld_len, e3.1 65]; exact hn.1, by rw [hld_len]; exact hn.2.1, e5, hld_ok hn.2.2.2⟩
      have iN : ∀ k, (upI (upA y1 25 (upd (y1.2.2.1 25) (Q 32) y2)) 69 (I ((lo + 1 : Nat) : Int))).1 k = if k = 69 then I ((lo + 1 : Nat) : Int) else z1.1 k := fun k => by
        by_cases z : k = 69
        · subst z; rw [upI_at, if_pos rfl]
        · rw [upI_ne z, if_neg z]; exact e3.1 k
      have rN : ∀ k, k ≠ 25 → (k < 61 ∨ 64 ≤ k) → (upI (upA y1 25 (upd (y1.2.2.1 25) (Q 32) y2)) 69 (I ((lo + 1 : Nat) : Int))).2.2.1 k = z1.2.2.1 k := fun k k1 k2 => by
        show (upA y1 25 _).2.2.1 k = _
        rw [upA_no k1]; exact e3.2 k k2
      refine hh _ h16 hl ⟨⟨⟨⟨fun k hk => ?_, fun k hk => ?_⟩, ⟨by rw [iN, if_pos rfl], hl⟩, by rw [iN]; exact d6.1.2.2.1, RNs_e rn (upI_ne (by decide)) (fun k k1 k2 => upA_no (by omega)), HFl_fr rn.2.2.2 e6 (fun j _ => rfl), by rw [iN]; exact d6.1.2.2.2.2.2⟩, fun k hk => ?_⟩, ⟨?_, ?_⟩, ?_, ?_, ?_⟩
      · have : k ≠ 69 := by rintro rfl; revert hk; decide
        rw [iN, if_neg this]; exact d6.1.1.1 k hk
      · have : k < 23 := by unfold TRW at hk; simp only [List.mem_cons, List.not_mem_nil, or_false] at hk; omega
        rw [rN k (by omega) (by omega)]; exact d6.1.1.2 k hk
      · have : k ≠ 69 := by rintro rfl; revert hk; decide
        rw [iN, if_neg this]; exact d6.2 k hk
      · have cs : ∀ k, grp k = 0 → k < 23 ∨ 31 < k := fun k a => by
          unfold grp at a
          by_cases z : 23 ≤ k ∧ k ≤ 31
          · rw [if_pos z] at a; cases a
          · omega
        refine ⟨fun k a1 a2 a3 => ?_, fun k q a1 a2 => ?_, fun k q a1 => ?_⟩
        · have := cs k a1
          rw [rN k (by omega) (by omega)]
          exact funext (fun j => d0.2.2.1 k j (by omega))
        · have g32 : 23 ≤ k → k ≤ 31 → q < Q 32 := fun z1 z2 => by
            have e : grp k = 32 := if_pos ⟨z1, z2⟩
            rw [e] at a2; exact a2
          have n61 : ¬ (61 ≤ k ∧ k ≤ 63) := fun z => by
            apply a1
            unfold grp
            rw [if_neg (by omega), if_neg (by omega), if_neg (by omega), if_neg (by omega), if_neg (by omega), if_neg (by omega), if_neg (by omega), if_neg (by omega)]
          by_cases z : k = 25
          · subst z
            have := g32 (by decide) (by decide)
            show (upA y1 25 _).2.2.1 25 q = _
            rw [upA_at, upd_no (by omega), e3.2 25 (by decide)]
            exact d0.2.2.1 25 q (by omega)
          · rw [rN k z (by omega)]
            exact d0.2.2.1 k q (by omega)
        · show y1.2.2.2 k q = _
          rw [f9.1, d0.2.2.2]
      · exact ⟨QLE_st QLE_rf (by omega), rfl, rfl, rfl⟩
      · show ((upA y1 25 _).2.2.1 23 (Q 32)).toInt = 3
        rw [upA_no (by decide), e3.2 23 (by decide), d1.1]; rfl
      · show ((upA y1 25 _).2.2.1 28 (Q 32)).toInt = _
        rw [upA_no (by decide), e3.2 28 (by decide), d1.2.2.2.2.2.1]; rfl
      · have : A (upI (upA y1 25 (upd (y1.2.2.1 25) (Q 32) y2)) 69 (I ((lo + 1 : Nat) : Int))) 25 (Q 32) = y2.toInt := by
          show ((upA y1 25 _).2.2.1 25 (Q 32)).toInt = _
          rw [upA_at, upd_at]
        rw [this, e7]
        exact LKt_ti (hld_ok hn.2.2.2) e8
/-- a NAME -/
theorem xl_nam (c : CTZ m0 w0 K T nm Nk) (hC : XCS m0 nm m a cm sc g) (hR : XRS w0 T w lo Q sc) (hq : Q 56 = q) (hn : n ≤ 8015) (hlf : LFc m0 n lo) (hk : K lo = 3) : PP (XZ m0 w0 K T nm Nk fof cvr lst g lo (lo + 1) a cm q q Q sc m w) (jm_Cm_expression N S m (I (n : Nat)) v2) (km_M_alone N S2 w (I (lo : Nat))) := by
  obtain ⟨l16, -, -, l17, l18⟩ := lf_7 c hlf hR.1.2.1.2
  have fr := XCS_fr hC
  have t4 := c.2.1.1.1
  have hl : lo < T := c.2.1.1.lt hR.1.2.1.2 (by omega) (by omega)
  obtain ⟨c7, -, cx, cu⟩ := c.2.2.2 lo hl hk
  obtain ⟨e, t, rfl⟩ := PRS_ne hR.1
  have ok := hR.1.2.2.2.1.2.2.2
  have tl : t.length + 1 ≤ 27 := hR.1.2.2.2.1.2.1.2
  have e18 : m.2.2.1 18 n = I (nm (Nk lo) : Nat) := by
    rw [tre fr (by decide) l18]
    show I (m0.2.2.1 7 lo).toInt = _
    rw [← I_of, c7]
  have e17 : m.2.2.1 17 n = I (lo : Nat) := tre fr (by decide) l17
  have nb := c.2.2.1.2 (Nk lo)
  refine exd_3 hn (tre fr (by decide) (v := 3) (l16.trans (by rw [hk]; rfl))) (l_ck (fun _ => ?_))
  have flt : ∀ (u : MS), PP (XZ m0 w0 K T nm Nk fof cvr lst g lo (lo + 1) a cm q q Q (e :: t) m w) (jb_Cm_expression_221 N S () u (I (n : Nat)) (I (lo : Nat))) (km_M_alone N S2 w (I (lo : Nat))) := fun u => by
    unfold jb_Cm_expression_221
    exact l_flt (tk := lo) (k := 5) rfl rfl (by omega) (by decide)
  rw [e18, e17]
  by_cases z0 : nm (Nk lo) = 0
  · rw [z0, show decide (I ((0 : Nat) : Int) = (0 : Int32)) = true from rfl, br_t]
    exact flt m
  rw [decide_eq_false (fun z => z0 (by
    have := (I_eq (x := ((nm (Nk lo) : Nat) : Int)) (y := 0) (by omega) (by omega) (by decide) (by decide)).mp z
    omega)), br_f]
  refine l_ck (fun _ => l_bnd (pk_mo (isB_all c.2.2.1 hC.1.2.1 ok cx (by omega)) (fun v r h => ?_)))
  rcases h with ⟨h1, h2, h3⟩ | ⟨h1, h2, h3⟩
  · rw [h1, show decide ((0 : Int32) = 0) = true from rfl, br_t]
    exact flt v
  rw [h1, show decide ((1 : Int32) = 0) = false from rfl, br_f]
  refine al_nam c hR hk z0 h2 (fun w2 h16 _ hA => ?_)
  obtain ⟨a1, a2, a3, a4, a5⟩ := hA
  unfold jb_Cm_expression_227 jb_Cm_expression_359
  have hv : XCS m0 nm v a cm (e :: t) g := by
    rw [h3]
    exact ⟨PCS_42 hC.1, hC.2⟩
  refine l_put hv.1.2.2.1.1 hv.1.2.2.1.2.2 (fun ha => l_ck (fun _ => ?_))
  have hv1 := XCS_put (x := 3) hv ha
  have ev : (ptc v a 3).2.2.1 18 (I (n : Nat)).toNatClampNeg = I (nm (Nk lo) : Nat) := by
    rw [i_nt2 (show n ≤ 100000 by omega), ptc_r (by decide), h3, upA_no (by decide)]; exact e18
  rw [ev]
  refine l_put hv1.1.2.2.1.1 hv1.1.2.2.1.2.2 (fun ha1 => ?_)
  have hv2 := XCS_hld (x := Nk lo) (XCS_put (x := I (nm (Nk lo) : Nat)) hv1 ha1)
  have em : ptc (ptc v a 3) (a + 1) (I (nm (Nk lo) : Nat)) = ptcs v a [3, I (nm (Nk lo) : Nat)] := rfl
  rw [em] at hv2 ⊢
  have lv : rfL false (Nk lo) (e :: t) = lvx (Nk lo) (e :: t) := (rf_y h2).2.2
  have fx : XFC m (ptcs v a [3, I (nm (Nk lo) : Nat)]) a q q ((e :: t).length - 1) := by
    refine XFC_ps ?_ (Nat.le_refl _)
    rw [h3]
    exact ⟨fun _ _ _ => rfl, fun k _ _ k3 => upA_no (by omega), fun j _ => by rw [upA_no (by decide)], fun k j k1 k2 _ => by rw [upA_no (by omega)], fun j _ => by rw [upA_no (by decide)], fun j _ => by rw [upA_no (by decide)]⟩
  have oe : (hdS (hld (Nk lo) (e :: t))).1 = e.1 := by
    unfold hld
    split
    · rfl
    · split <;> rfl
  have on : Onm nm (hld (Nk lo) (e :: t)) = Onm nm (e :: t) := by unfold Onm; rw [oe]; rfl
  refine pp_end ⟨a + 2, cm, qst Q 32 (Q 32 + 1), hld (Nk lo) (e :: t), Q 32, 2, [], rfl, ⟨Nat.le_refl _, by rw [qst_at]; omega⟩, ⟨⟨by omega, by omega, Nat.le_refl _, Nat.le_refl _⟩, hv2, ⟨a1, by rw [qst_no (by decide)]; exact hq⟩, by rw [tot_hld]; omega, ⟨fun _ => lvx (Nk lo) (e :: t), ?_, ?_⟩, fx, a2, fun _ => oe, fun n hn => (by cases hn), fun C P R J H fi hx => ⟨fun u u1 u2 => by omega, fun y hy hr => ?_⟩⟩, ⟨by omega, by omega⟩, RTd_1 a4 (by rw [a3]; decide) rfl ⟨Nat.le_refl _, by rw [qst_at]; omega⟩, fun n hn => by cases hn⟩
  · have := rfP_dw (Nk := Nk) (K := K) (W := fun _ => lvx (Nk lo) (e :: t)) (p := lo) (own := false) (nm := nm) ok rfl hk z0 lv.symm (by omega)
    rw [(rf_y h2).1] at this
    exact HDx_of this
  · rw [ptcs_r (by decide), h3, upA_at, wup_1 hk]
  · have gc := fi.1
    have ro : ∀ k, 23 ≤ k ∧ k ≤ 31 → k ≠ 27 ∧ k ≠ 29 ∧ k ≠ 30 → R k (Q 32) = A w2 k (Q 32) := fun k k1 k2 => FIN_R fi k1 k2 ⟨Nat.le_refl _, by rw [qst_at]; omega⟩
    have c0 : C a = 3 := C_0 gc (by omega)
    have c1 : C (a + 1) = ((nm (Nk lo) : Nat) : Int) := (C_at (k := 1) gc rfl (by omega)).trans (I_ti (by omega) (by omega))
    obtain ⟨b1, b2⟩ := XB c.2.2.1 hC hR (HNX_mo (cm := cm) (rfP_dw (Nk := Nk) (K := K) (W := fun _ => lvx (Nk lo) (e :: t)) (p := lo) (own := false) (nm := nm) ok rfl hk z0 lv.symm (by omega)).1 (Nat.le_refl _) (by rw [(rf_y h2).1]; exact hx)) h16
    obtain ⟨d, hd⟩ := hr
    rw [qst_at, on] at hd
    refine cr_1 b1 b2 ⟨d, Or.inr (Or.inr (Or.inl ⟨(ro 23 (by decide) (by decide)).trans a3, c0, ?_, hd⟩))⟩
    rw [c1, ro 25 (by decide) (by decide), ← on]
    exact LKP_t c.2.2.1 a5 hx.1
/-- a leaf -/
theorem xl_all (c : CTZ m0 w0 K T nm Nk) (cv : CTV m0 w0 K T) (hC : XCS m0 nm m a cm sc g) (hR : XRS w0 T w lo Q sc) (hq : Q 56 = q) (hn : n ≤ 8015) (hlf : LFc m0 n lo) : PP (XZ m0 w0 K T nm Nk fof cvr lst g lo (lo + 1) a cm q q Q sc m w) (jm_Cm_expression N S m (I (n : Nat)) v2) (km_M_alone N S2 w (I (lo : Nat))) := by
  obtain ⟨-, k1, k4, -⟩ := lf_7 c hlf hR.1.2.1.2
  by_cases z : K lo = 1 ∨ K lo = 2
  · exact xl_num c cv hC hR hq hn hlf z
  by_cases z3 : K lo = 3
  · exact xl_nam c hC hR hq hn hlf z3
  · exact xl_str c cv hC hR hq hn hlf (by omega)
end
