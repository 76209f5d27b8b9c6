/-! expressions: leaves, both -/
set_option maxRecDepth 100000
section
variable {α β : Type} {m0 w0 m w m2 w2 m3 w3 v u : MS} {K nm Nk W W2 : Nat → Nat} {N T a b c cm cm2 cm3 q r s lo mid hi i j f f2 n k p σ tk x : Nat} {Q Q2 Q3 Q4 : Nat → Nat} {sc sc2 sc3 t : SCT} {e : List Nat × List Nat × Nat} {g lst : Bool} {L L1 L2 : List Nat} {fof cvr : Int → Int → Int} {C : Nat → Int} {P R : Nat → Nat → Int} {J : Nat → Int64} {H O : List Nat} {y : Option (Nat × Nat × Nat)} {S : SF_Cm_fun} {S2 : SG_M_behind} {v2 : Int32} {i1 : Int}
theorem LKP_t (hn : NMJ nm) (h : LKt sc2 x i1) (gh : HPX nm sc2 H) : LKP H (Onm nm sc2) ((nm x : Nat) : Int) i1 := by
  refine ⟨nm x, rfl, ?_⟩
  cases sc2 with
  | nil => exact h.elim
  | cons e3 t3 =>
    rcases h with ⟨k, i1, i2⟩ | ⟨i0, ⟨k, i1, i2⟩ | i1⟩
    · exact Or.inl ⟨k, i1, by show (e3.1.map nm)[k]? = _; rw [List.getElem?_map, i2]; rfl⟩
    · refine Or.inr ⟨k, i1, ?_, ?_⟩
      · intro z
        obtain ⟨y, hy, he⟩ := List.mem_map.mp z
        exact i0 (by rw [← hn.1 _ _ he]; exact hy)
      · obtain ⟨l, hl⟩ := gh.1
        have hl : (e3.2.1.map nm) ++ l = H := hl
        have i3 : (e3.2.1.map nm)[k]? = some (nm x) := by rw [List.getElem?_map, i2]; rfl
        rw [← hl, List.getElem?_append_left (List.getElem?_eq_some_iff.mp i3).1]
        exact i3
    · exfalso
      have h1 := gh.1.length_le
      have h2 := gh.2
      have h3 : (e3.2.1.map nm).length = e3.2.1.length := List.length_map _
      have h1 : (e3.2.1.map nm).length ≤ H.length := h1
      omega
/-- what every step of code and nodes asks -/
theorem XB (hn : NMJ nm) (hC : XCS m0 nm m a cm sc g) (hR : XRS w0 T w p Q sc) (hx : HNX nm sc cm H) (hi : i < 16000) : ((Onm nm sc).Nodup ∧ H.Nodup) ∧ (a + 2 < 24000 ∧ i + 2 < 100000 ∧ H.length + (Onm nm sc).length ≤ 40) := by
  have := XCS_len hC
  have := hC.1.2.2.1.2.2
  have := hx.2.2
  exact ⟨⟨XRS_nd hn hR, hx.2.1⟩, by omega, by omega, by omega⟩
theorem XCS_fr (h : XCS m0 nm m a cm sc g) : FRC m0 m := h.1.1
/-- a token of some kind, here -/
theorem tkd_6 (c : CTZ m0 w0 K T nm Nk) (h : XRS w0 T w p Q sc) : inb (w.1 69) 4002 = true ∧ (w.1 69).toNatClampNeg = p ∧ w.2.2.1 6 p = I (srK (K p) : Nat) := WP_i (XRS_wp c h)
theorem XRS_7 (h : XRS w0 T w p Q sc) : w.2.2.1 7 = w0.2.2.1 7 := h.1.1.2 7 (by decide)
theorem XRS_q (h : XRS w0 T w p Q sc) : w.1 32 = I (Q 32 : Nat) ∧ Q 32 ≤ 24000 := h.2 32 (by decide)
/-- alone() at a number or an ATOM -/
theorem al_num (c : CTZ m0 w0 K T nm Nk) (hR : XRS w0 T w lo Q sc) (hk : K lo = 1 ∨ K lo = 2) {A' : Option (MS × α)} {RR : MS → α → MS → Int32 → Prop} (hh : ∀ v, Q 32 < 16000 → lo < T → NOD w v (Q 32) → v.1 69 = I ((lo + 1 : Nat) : Int) → A v 23 (Q 32) = 1 → A v 25 (Q 32) = ((K lo - 1 : Nat) : Int) → A v 26 (Q 32) = A w0 7 lo → A v 28 (Q 32) = -1 → PP RR A' (some (v, I (Q 32 : Nat)))) : PP RR A' (km_M_alone N S2 w (I (lo : Nat))) := by
  have hw := XRS_wp c hR
  have hl : lo < T := c.2.1.1.lt hR.1.2.1.2 (by omega) (by omega)
  have t4 := c.2.1.1.1
  obtain ⟨a, b, -⟩ := tkd_6 c hR
  obtain ⟨n1, n2⟩ := XRS_q hR
  have h69 := hR.1.2.1.1
  have s4 : decide (w.2.2.1 6 lo = 4) = decide (K lo = 1) := srt_dc hw srK_4
  have s1 : decide (w.2.2.1 6 lo = 1) = decide (K lo = 2) := srt_dc hw srK_1
  have e28 : PP RR A' (kb_M_alone_28 N S2 () w (I (lo : Nat))) := by
    unfold kb_M_alone_28
    refine r_nod n1 n2 rfl (nsh (by omega)) (fun h16 => ?_)
    have d0 : NOD w (nwD w (Q 32) 1 (I (lo : Nat))) (Q 32) := NOD_0 n1
    have d1 := nwD_at (w := w) (i := Q 32) (k := 1) (t := I (lo : Nat))
    have d2 : (nwD w (Q 32) 1 (I (lo : Nat))).1 69 = I (lo : Nat) := by rw [nwD_i (by decide)]; exact h69
    have d3 : (nwD w (Q 32) 1 (I (lo : Nat))).2.2.1 6 lo = w.2.2.1 6 lo := by rw [nwD_r (by decide)]
    have d4 : (nwD w (Q 32) 1 (I (lo : Nat))).2.2.1 7 lo = w0.2.2.1 7 lo := by rw [nwD_r (by decide), XRS_7 hR]
    generalize nwD w (Q 32) 1 (I (lo : Nat)) = u at d0 d1 d2 d3 d4
    rw [d2, i_nt (p := lo) (by omega), d3, s4]
    refine r_ck (fun _ => ?_)
    have go : ∀ z : Int32, z.toInt = ((K lo - 1 : Nat) : Int) → PP RR A' (kb_M_alone_58 N S2 () u (I (Q 32 : Nat)) 25 (I (Q 32 : Nat)) z) := fun z hz => by
      unfold kb_M_alone_58
      refine r_ck (fun _ => r_ck (fun _ => r_lt ?_))
      rw [i_nt2 (p := Q 32) (by omega)]
      have e69 : (upA u 25 (upd (u.2.2.1 25) (Q 32) z)).1 69 = I (lo : Nat) := d2
      have e7 : (upA u 25 (upd (u.2.2.1 25) (Q 32) z)).2.2.1 7 lo = w0.2.2.1 7 lo := d4
      rw [e69, i_nt (p := lo) (by omega), e7]
      refine r_ck (fun _ => r_ck (fun _ => r_lt (r_lt ?_)))
      unfold kb_M_alone_361
      have d5 : NOD w (upA u 25 (upd (u.2.2.1 25) (Q 32) z)) (Q 32) := NOD_A d0 (by decide)
      have d6 : NOD w (upA (upA u 25 (upd (u.2.2.1 25) (Q 32) z)) 26 (upd ((upA u 25 (upd (u.2.2.1 25) (Q 32) z)).2.2.1 26) (Q 32) (w0.2.2.1 7 lo))) (Q 32) := NOD_A d5 (by decide)
      refine hh _ h16 hl (NOD_I d6 (by decide) (by decide)) (by rw [upI_at]; show u.1 69 + 1 = _; rw [d2, i_suc]) ?_ ?_ ?_ ?_
      · show ((upA (upA u 25 _) 26 _).2.2.1 23 (Q 32)).toInt = 1
        rw [upA_no (by decide), upA_no (by decide), d1.1]; rfl
      · show ((upA (upA u 25 _) 26 _).2.2.1 25 (Q 32)).toInt = _
        rw [upA_no (by decide), upA_at, upd_at]; exact hz
      · show ((upA (upA u 25 _) 26 _).2.2.1 26 (Q 32)).toInt = _
        rw [upA_at, upd_at]; rfl
      · show ((upA (upA u 25 _) 26 _).2.2.1 28 (Q 32)).toInt = _
        rw [upA_no (by decide), upA_no (by decide), d1.2.2.2.2.2.1]; rfl
    rcases hk with hk | hk
    · rw [decide_eq_true hk, br_t]
      exact go 0 (by rw [hk]; rfl)
    · rw [decide_eq_false (by omega), br_f]
      exact go 1 (by rw [hk]; rfl)
  unfold km_M_alone kb_M_alone_0
  rw [b, s4]
  refine r_ck (fun _ => ?_)
  rcases hk with hk | hk
  · rw [decide_eq_true hk, br_t]; exact e28
  · rw [decide_eq_false (by omega), br_f, s1, decide_eq_true hk, br_t]
    exact r_ck (fun _ => e28)
/-- a number, an ATOM -/
theorem xl_num (c : CTZ m0 w0 K T nm Nk) (cv : CTV m0 w0 K T) (hC : XCS m0 nm m a cm sc g) (hR : XRS w0 T w lo Q sc) (hq : Q 56 = q) (hn : n ≤ 8015) (hlf : LFc m0 n lo) (hk : K lo = 1 ∨ K lo = 2) : PP (XZ m0 w0 K T nm Nk fof cvr lst g lo (lo + 1) a cm q q Q sc m w) (jm_Cm_expression N S m (I (n : Nat)) v2) (km_M_alone N S2 w (I (lo : Nat))) := by
  obtain ⟨l16, -, -, l17, l18⟩ := lf_7 c hlf hR.1.2.1.2
  have fr := XCS_fr hC
  refine al_num c hR hk (fun v h16 hl hN h69 r23 r25 r26 r28 => ?_)
  have e18 : A m0 18 n = A w0 7 lo := by
    rw [l18]
    exact congrArg Int32.toInt ((cv lo hl).2.1 hk)
  have fin : ∀ z : Int32, z.toInt = ((K lo - 1 : Nat) : Int) → PP (XZ m0 w0 K T nm Nk fof cvr lst g lo (lo + 1) a cm q q Q sc m w) (bnd (jm_Co_put N m 1) (fun u24 r24 => ck (inb (I (n : Nat)) 8016) (bnd (jm_Cm_term N u24 z (u24.2.2.1 18 n)) (fun u31 r31 => jb_Cm_expression_359 N S () u31)))) (some (v, I (Q 32 : Nat))) := fun z hz => by
    refine l_put hC.1.2.2.1.1 hC.1.2.2.1.2.2 (fun ha => l_ck (fun _ => ?_))
    have h1 := XCS_put (x := 1) hC ha
    have e1 : (ptc m a 1).2.2.1 18 n = m0.2.2.1 18 n := by rw [ptc_r (by decide), fr.2 18 (by decide)]
    rw [e1]
    unfold jm_Cm_term jb_Cm_term_0
    rw [bnd_as2]
    refine l_put h1.1.2.2.1.1 h1.1.2.2.1.2.2 (fun ha1 => ?_)
    have h2 := XCS_put (x := z) h1 ha1
    rw [bnd_as2]
    refine l_put h2.1.2.2.1.1 h2.1.2.2.1.2.2 (fun ha2 => ?_)
    rw [bnd_s]
    have h3 := XCS_put (x := m0.2.2.1 18 n) h2 ha2
    have em : ptc (ptc (ptc m a 1) (a + 1) z) (a + 1 + 1) (m0.2.2.1 18 n) = ptcs m a [1, z, m0.2.2.1 18 n] := rfl
    rw [em] at h3 ⊢
    refine pp_end ⟨a + 3, cm, qst Q 32 (Q 32 + 1), sc, Q 32, 2, [], rfl, ⟨Nat.le_refl _, by rw [qst_at]; omega⟩, XT_nod hC hR hq ⟨by omega, hl⟩ (fun j j1 j2 => ?_) (by omega) h3 (XFC_ps XFC_rf (Nat.le_refl _)) (ptcs_r (by decide)) hN rfl h16 h69 (fun n hn => by cases hn) (fun C P R J H fi hx => ⟨fun u u1 u2 => by omega, fun y hy hr => ?_⟩), ⟨by omega, by omega⟩, RTd_1 r28 (by rw [r23]; decide) rfl ⟨Nat.le_refl _, by rw [qst_at]; omega⟩, fun n hn => by cases hn⟩
    · rw [show j = lo by omega]; omega
    · have gc := fi.1
      have ro : ∀ k, 23 ≤ k ∧ k ≤ 31 → k ≠ 27 ∧ k ≠ 29 ∧ k ≠ 30 → R k (Q 32) = A v k (Q 32) := fun k k1 k2 => FIN_R fi k1 k2 ⟨Nat.le_refl _, by rw [qst_at]; omega⟩
      have c0 : C a = 1 := C_0 gc (by omega)
      have c1 : C (a + 1) = z.toInt := C_at (k := 1) gc rfl (by omega)
      have c2 : C (a + 2) = (m0.2.2.1 18 n).toInt := C_at (k := 2) gc rfl (by omega)
      obtain ⟨b1, b2⟩ := XB c.2.2.1 hC hR hx h16
      obtain ⟨d, hd⟩ := hr
      rw [qst_at] at hd
      refine cr_1 b1 b2 ⟨d, Or.inl ⟨(ro 23 (by decide) (by decide)).trans r23, ?_, c0, ?_, ?_, hd⟩⟩
      · rw [ro 25 (by decide) (by decide), r25]
        rcases hk with hk | hk
        · left; rw [hk]; rfl
        · right; left; rw [hk]; rfl
      · rw [c1, hz, ro 25 (by decide) (by decide), r25]
      · rw [c2, ro 26 (by decide) (by decide), r26]; exact e18
  rcases hk with hk | hk
  · exact exd_1 hn (tre fr (by decide) (v := 1) (l16.trans (by rw [hk]; rfl))) (fin 0 (by rw [hk]; rfl))
  · exact exd_2 hn (tre fr (by decide) (v := 2) (l16.trans (by rw [hk]; rfl))) (fin 1 (by rw [hk]; rfl))
end
