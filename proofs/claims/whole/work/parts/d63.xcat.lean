/-! expressions: CATCH, both: all of it -/
set_option maxRecDepth 100000
section
variable {α β : Type} {m0 w0 m w m2 w2 m3 w3 v u w1 mS wS : MS} {K nm Nk W W2 : Nat → Nat} {N T D d o a a0 b b0 c cm cm0 cm2 cm3 q q0 r s lo lo0 mid hi i j f f2 n k kk p p2 σ tk x xa xb M m1 lv y : Nat} {Q Q0 Q2 Q3 Q4 : Nat → Nat} {sc sc0 sc2 sc3 t t2 : SCT} {e e2 : List Nat × List Nat × Nat} {g lst l2 : Bool} {L L1 L2 S : List Nat} {idc fof cvr : Int → Int → Int} {z : Unit} {rt v1 v2 v3 v4 v5 : Int32} {fc : MS → Unit → Option (MS × α)} {RR : MS → α → MS → β → Prop} {F : MS → Unit → Option (MS × β)}
theorem x_cat (c : CTZ m0 w0 K T nm Nk) (IE : HXE N m0 w0 K T nm Nk fof cvr f) : HXC N m0 w0 K T nm Nk fof cvr (f + 1) := by
  intro D d o n lo hi xa xb q r m w a cm Q sc g lst hE h16 hxb hr4 hcl hC hR hq htot
  have t4 := c.2.1.1.1
  have hd := xp_hd hE
  have fr := XCS_fr hC
  have hn : n ≤ 8015 := by omega
  obtain ⟨-, ⟨tk, h17, htk⟩, -, h4⟩ := hE
  have hx : ∃ x c1 : Nat, A m0 18 n = ((x : Nat) : Int) ∧ XPcK m0 f (o + 1) 3 x (lo + 1) hi xa c1 q r ∧ (c1 < n ∧ A m0 6 lo = 9) := by
    rcases h4 with h | h | h | h | h | h | h | h | h | h | h | h | h | h | h | h | h
    · have := h.1.1; have := h.1.2.1; omega
    · have := h.1; omega
    · have := h.1; omega
    · have := h.1; omega
    · have := h.1; omega
    · have := h.1; omega
    · have := h.1; omega
    · have := h.1; omega
    · have := h.1; omega
    · have := h.1; omega
    · have := h.1; omega
    · have := h.1; omega
    · rcases h.1 with z | z <;> omega
    · exact h.2.2
    · have := h.1; omega
    · have := h.1; omega
    · have := h.1; omega
  clear h4
  obtain ⟨x, c1, h18, hx, hc1, k9⟩ := hx
  have hdx := xp_hd hx
  have kl : K lo = 9 := kA c (by omega) k9
  obtain ⟨e, t, rfl⟩ := PRS_ne hR.1
  have rn := hR.1.2.2.2.1
  have tl : t.length + 1 ≤ 27 := rn.2.1.2
  have h60 : w.2.2.1 60 t.length = I (e.1.length : Nat) := rn.2.2.1.1.1
  have h65 : w.1 65 = I (t.length : Nat) := rn.1
  have l2 := nd_len 1400 _ rn.2.2.2.1.1 rn.2.2.2.1.2.1
  cases D with
  | zero => exact pp_nl
  | succ D =>
  show PP _ (jm_Cm_expression N (jrc_Cm_fun N D) m (I (n : Nat)) (lsI lst)) _
  refine exd_19 hn (tre fr (by decide) h16) (l_id ?_)
  cases D with
  | zero => exact pp_nl
  | succ D =>
  show PP _ (jm_Cm_compound N (jrc_Cm_fun N D) m (I (n : Nat)) (lsI lst)) _
  refine cmd_19 hn (tre fr (by decide) h16) hC.2 (tre fr (by decide) h17) (by omega) (fun hg => ?_)
  refine l_put hC.1.2.2.1.1 hC.1.2.2.1.2.2 (fun ha => ?_)
  have c1x := XCS_put (x := 29) hC ha
  unfold jm_Co_hook jb_Co_hook_0
  rw [bnd_as2]
  refine l_put c1x.1.2.2.1.1 c1x.1.2.2.1.2.2 (fun ha1 => ?_)
  have c2x := XCS_put (x := 0) c1x ha1
  rw [bnd_s]
  have e441 : (ptc (ptc m a 29) (a + 1) 0).1 441 = I ((a + 2 : Nat) : Int) := c2x.1.2.2.1.1
  rw [e441, show ((a + 2 : Nat) : Int) = ((a + 1 + 1 : Nat) : Int) from rfl, I_sn, hC.1.2.1.2.2.1]
  have em : ptc (ptc m a 29) (a + 1) 0 = ptcs m a [29, 0] := rfl
  rw [em] at c2x ⊢
  refine l_ck (fun _ => ?_)
  rw [tre (XCS_fr c2x) (by decide) h18]
  -- here
  obtain ⟨q1, q2⟩ := XRS_q hR
  unfold kb_M_expression_60
  rw [hR.1.2.1.1]
  refine r_nod q1 q2 rfl (nsh (by omega)) (fun h16r => ?_)
  have d0 : NOD w (nwD w (Q 32) 19 (I (lo : Nat))) (Q 32) := NOD_0 q1
  obtain ⟨d1, d2, d3, d4, d5, d6, d7, d8⟩ := nwD_at (w := w) (i := Q 32) (k := 19) (t := I (lo : Nat))
  have d9 : (nwD w (Q 32) 19 (I (lo : Nat))).1 69 = I (lo : Nat) := by rw [nwD_i (by decide)]; exact hR.1.2.1.1
  generalize nwD w (Q 32) 19 (I (lo : Nat)) = U at d0 d1 d2 d3 d4 d5 d6 d7 d8 d9
  have e69 : U.1 69 + 1 = I ((lo + 1 : Nat) : Int) := by rw [d9, i_suc]
  rw [lt_e, e69]
  have dI : NOD w (upI U 69 (I ((lo + 1 : Nat) : Int))) (Q 32) := NOD_I d0 (by decide) (by decide)
  have u69 : (upI U 69 (I ((lo + 1 : Nat) : Int))).1 69 = I ((lo + 1 : Nat) : Int) := upI_at
  have u23 : (upI U 69 (I ((lo + 1 : Nat) : Int))).2.2.1 23 (Q 32) = 19 := d1
  have u28 : (upI U 69 (I ((lo + 1 : Nat) : Int))).2.2.1 28 (Q 32) = -1 := d6
  generalize upI U 69 (I ((lo + 1 : Nat) : Int)) = U2 at dI u69 u23 u28
  have f65 : U2.1 65 = I (t.length : Nat) := (dI.1 65 (by decide)).trans h65
  have f60 : U2.2.2.1 60 t.length = I (e.1.length : Nat) := (dI.2.2.1 60 _ (by omega)).trans h60
  rw [f65, i_nt2 (p := t.length) (by omega), f60]
  refine r_ck (fun _ => r_lt (r_ck (fun _ => ?_)))
  rw [lt_e, i_nt2 (p := Q 32) (by omega)]
  have dV : NOD w (upA U2 26 (upd (U2.2.2.1 26) (Q 32) (I (e.1.length : Nat)))) (Q 32) := NOD_A dI (by decide)
  have v69 : (upA U2 26 (upd (U2.2.2.1 26) (Q 32) (I (e.1.length : Nat)))).1 69 = I ((lo + 1 : Nat) : Int) := u69
  have v23 : (upA U2 26 (upd (U2.2.2.1 26) (Q 32) (I (e.1.length : Nat)))).2.2.1 23 (Q 32) = 19 := by rw [upA_no (by decide)]; exact u23
  generalize upA U2 26 (upd (U2.2.2.1 26) (Q 32) (I (e.1.length : Nat))) = V at dV v69 v23
  have hV : XRS w0 T V (lo + 1) (qst Q 32 (Q 32 + 1)) (e :: t) := XRS_n hR dV.1 (fun k hk => funext (fun j => dV.2.2.1 k j (by omega))) v69 (by omega) dV.2.1 (by omega)
  have q56 : qst Q 32 (Q 32 + 1) 56 = q := by rw [qst_no (by decide)]; exact hq
  have q32' : qst Q 32 (Q 32 + 1) 32 = Q 32 + 1 := qst_at
  refine pp_bb (pp_mo (IE D d (o + 1) x (lo + 1) hi xa c1 q r _ V (a + 2) cm (qst Q 32 (Q 32 + 1)) (e :: t) g false hx (by omega) hr4 hcl c2x hV q56 (by omega)) (fun m2 z w2 rt hz => ?_))
  obtain ⟨b, cm2, Q2, sc2, ht⟩ := XZ_tr (lst := lst) hz (XTR_rf c2x hV q56)
  obtain ⟨a1, a2, a3, a4, ⟨W, a5, a6⟩, a7, a8, a9, a10, a11⟩ := ht
  have nx := (a5.2 rfl).2
  cases sc2 with
  | nil => exact nx.elim
  | cons e2 t2 =>
  obtain ⟨n1, n2, n3⟩ := nx
  have bt : tot t2 = tot t := (BDs_len n2).2
  have hR2 := a3.1
  refine l_put a2.1.2.2.1.1 a2.1.2.2.1.2.2 (fun ha3 => ?_)
  have c3 := XCS_put (x := 30) a2 ha3
  refine fg_op c c3 hR2 n1 bt (fun m3 w3 b' Q3 sc3 hC3 hR3 hQ3 wr hcase => ?_)
  have le2 : a + 2 ≤ b := a1.2.1
  have q32b : Q 32 + 1 ≤ Q2 32 := by have := a8.2.1 32 (by decide); rw [q32'] at this; exact this
  -- what is the same in either case
  have F1 : ∀ j, j < b → m3.2.2.1 23 j = m2.2.2.1 23 j := fun j hj => by
    rcases hcase with ⟨rfl, -⟩ | ⟨-, rfl, -⟩
    · exact ptc_o (by omega)
    · show (ptcs (ptc m2 b 30) (b + 1) _).2.2.1 23 j = _
      rw [ptcs_o (Or.inl (by omega))]; exact ptc_o (by omega)
  have F2 : ∀ k, k ≠ 23 → m3.2.2.1 k = m2.2.2.1 k := fun k hk => by
    rcases hcase with ⟨rfl, -⟩ | ⟨-, rfl, -⟩
    · exact ptc_r hk
    · show (ptcs (ptc m2 b 30) (b + 1) _).2.2.1 k = _
      rw [ptcs_r hk]; exact ptc_r hk
  have F3 : ∀ k, k ≠ 441 → k ≠ 706 → m3.1 k = m2.1 k := fun k h1 h2 => by
    rcases hcase with ⟨rfl, -⟩ | ⟨-, rfl, -⟩
    · exact ptc_i h1
    · rw [upI_ne h2, ptcs_i h1]; exact ptc_i h1
  have F4 : Q2 32 ≤ Q3 32 ∧ Q3 32 ≤ Q2 32 + 1 ∧ ∀ k, k ≠ 32 → Q3 k = Q2 k := by
    rcases hcase with ⟨-, -, -, rfl, -⟩ | ⟨-, -, -, rfl, -⟩
    · exact ⟨Nat.le_refl _, by omega, fun _ _ => rfl⟩
    · rw [qst_at]; exact ⟨by omega, by omega, fun k hk => qst_no hk⟩
  have F5 : tot sc3 ≤ tot (e :: t) + (hi - (lo + 1)) ∧ Onm nm sc3 = e.1.map nm ∧ HDx nm Nk K W (lo + 1) hi (e :: t) sc3 ∧ b + 1 ≤ b' ∧ m3.2.2.1 23 b = 30 := by
    rcases hcase with ⟨rfl, -, rfl, -, rfl, ee⟩ | ⟨-, rfl, rfl, -, rfl, -⟩
    · exact ⟨a4, by show e2.1.map nm = _; rw [ee], a5, Nat.le_refl _, ptcs_at (l := [30]) (k := 0) rfl⟩
    · refine ⟨?_, rfl, ⟨⟨a5.1.1, a5.1.2⟩, fun _ => ⟨(a5.2 rfl).1, List.prefix_rfl, n2, fun x hx => Or.inl hx⟩⟩, by omega, ?_⟩
      · show tot t2 + e.1.length ≤ _
        have : tot (e :: t) = tot t + e.1.length := rfl
        omega
      · show (ptcs (ptc m2 b 30) (b + 1) _).2.2.1 23 b = _
        rw [ptcs_o (Or.inl (by omega))]; exact ptcs_at (l := [30]) (k := 0) rfl
  -- the hook arrives
  have p1 : 1 ≤ a := hC.1.2.2.1.2.1
  have m3h : m3.2.2.1 23 (a + 1) = 0 := by
    rw [F1 (a + 1) (by omega), a7.2.2.1 (a + 1) (by omega)]
    exact ptcs_at (l := [29, 0]) (a := a) (k := 1) rfl
  refine arr_1 hC3.1.2.2.1.1 ⟨by omega, by omega⟩ m3h ?_
  -- a node
  obtain ⟨g1, g2⟩ := XRS_q hR3
  rw [hR3.1.2.1.1]
  refine r_nod g1 g2 rfl (nsh (by omega)) (fun h16s => ?_)
  have x0 : NOD w3 (nwD w3 (Q3 32) 20 (I (hi : Nat))) (Q3 32) := NOD_0 g1
  obtain ⟨x1, x2, x3, x4, x5, x6, x7, x8⟩ := nwD_at (w := w3) (i := Q3 32) (k := 20) (t := I (hi : Nat))
  have x9 : (nwD w3 (Q3 32) 20 (I (hi : Nat))).1 69 = I (hi : Nat) := by rw [nwD_i (by decide)]; exact hR3.1.2.1.1
  generalize nwD w3 (Q3 32) 20 (I (hi : Nat)) = X at x0 x1 x2 x3 x4 x5 x6 x7 x8 x9
  have hX : XRS w0 T X hi (qst Q3 32 (Q3 32 + 1)) sc3 := XRS_n hR3 x0.1 (fun k hk => funext (fun j => x0.2.2.1 k j (by omega))) x9 hcl.2 x0.2.1 (by omega)
  rw [x0.2.1]
  refine r_ck (fun _ => r_lt ?_)
  unfold kb_M_expression_137
  refine r_lt ?_
  -- the reader's rows now
  have y1 : ∀ k i, (k ≠ 25 ∨ i ≠ Q 32) → (upA X 25 (upd (X.2.2.1 25) (Q 32) (I ((Q3 32 + 1 : Nat) : Int)))).2.2.1 k i = X.2.2.1 k i := fun k i hk => by
    by_cases z : k = 25
    · subst z
      rw [upA_at, upd_no (hk.resolve_left (fun z => z rfl))]
    · rw [upA_no z]
  have y2 : A (upA X 25 (upd (X.2.2.1 25) (Q 32) (I ((Q3 32 + 1 : Nat) : Int)))) 25 (Q 32) = ((Q3 32 + 1 : Nat) : Int) := by
    show ((upA X 25 _).2.2.1 25 (Q 32)).toInt = _
    rw [upA_at, upd_at]
    exact I_ti (by omega) (by omega)
  have y3 : (upA X 25 (upd (X.2.2.1 25) (Q 32) (I ((Q3 32 + 1 : Nat) : Int)))).2.2.2 = X.2.2.2 := rfl
  have hQX : QRR Q w X := QRR_tr (Q2 := qst Q 32 (Q 32 + 1)) (QRR_N dV (Nat.le_refl _)) (QRR_tr (Q2 := Q2) a8.1 (QRR_tr (Q2 := Q2) hQ3 (QRR_N x0 F4.1) QLE_rf) a8.2.1) (QLE_st QLE_rf (by omega))
  have hQY : QRR Q w (upA X 25 (upd (X.2.2.1 25) (Q 32) (I ((Q3 32 + 1 : Nat) : Int)))) := QRR_A hQX (by decide) (Nat.le_refl _)
  have hY : XRS w0 T (upA X 25 (upd (X.2.2.1 25) (Q 32) (I ((Q3 32 + 1 : Nat) : Int)))) hi (qst Q3 32 (Q3 32 + 1)) sc3 := ⟨PRS_x hX.1 (fun _ _ => rfl) (fun k hk => by rw [upA_no (by omega)]) hX.1.2.1.1, hX.2⟩
  generalize upA X 25 (upd (X.2.2.1 25) (Q 32) (I ((Q3 32 + 1 : Nat) : Int))) = Y at y1 y2 y3 hQY hY
  have hY2 := XRS_I (k := 70) (x := Y.1 70 - 1) hY (by decide) (by decide)
  have hQY2 : QRR Q w (upI Y 70 (Y.1 70 - 1)) := hQY
  have y1' : ∀ k i, (k ≠ 25 ∨ i ≠ Q 32) → (upI Y 70 (Y.1 70 - 1)).2.2.1 k i = X.2.2.1 k i := y1
  have y2' : A (upI Y 70 (Y.1 70 - 1)) 25 (Q 32) = ((Q3 32 + 1 : Nat) : Int) := y2
  have y3' : (upI Y 70 (Y.1 70 - 1)).2.2.2 = X.2.2.2 := y3
  generalize upI Y 70 (Y.1 70 - 1) = Y2 at y1' y2' y3' hQY2 hY2
  -- the compiler's rows now
  have hC4 : XCS m0 nm (upA m3 23 (upd (m3.2.2.1 23) (a + 1) (I (b' : Nat)))) b' cm2 sc3 g := Kco_23 hC3
  have mo : ∀ j, j ≠ a + 1 → (upA m3 23 (upd (m3.2.2.1 23) (a + 1) (I (b' : Nat)))).2.2.1 23 j = m3.2.2.1 23 j := fun j hj => by rw [upA_at, upd_no hj]
  have mo2 : ∀ k, k ≠ 23 → (upA m3 23 (upd (m3.2.2.1 23) (a + 1) (I (b' : Nat)))).2.2.1 k = m3.2.2.1 k := fun k hk => upA_no hk
  have m4x : (upA m3 23 (upd (m3.2.2.1 23) (a + 1) (I (b' : Nat)))).2.2.1 23 (a + 1) = I (b' : Nat) := by rw [upA_at, upd_at]
  have m4i : (upA m3 23 (upd (m3.2.2.1 23) (a + 1) (I (b' : Nat)))).1 = m3.1 := rfl
  generalize upA m3 23 (upd (m3.2.2.1 23) (a + 1) (I (b' : Nat))) = Z at hC4 mo mo2 m4x m4i
  obtain ⟨F51, F52, F53, F54, F55⟩ := F5
  have gap : ∀ j, lo ≤ j → j < lo + 1 → K j ≠ 3 := fun j j1 j2 => by rw [show j = lo by omega]; omega
  have y28 : A Y2 28 (Q3 32) = -1 := by
    show (Y2.2.2.1 28 (Q3 32)).toInt = _
    rw [y1' 28 _ (Or.inl (by decide)), x6]; rfl
  have y23 : A Y2 23 (Q3 32) = 20 := by
    show (Y2.2.2.1 23 (Q3 32)).toInt = _
    rw [y1' 23 _ (Or.inl (by decide)), x1]; rfl
  -- from here to what it was behind the E
  have back : ∀ k n, grp k ≠ 0 → (k ≠ 25 ∨ n ≠ Q 32) → n < Q2 (grp k) → Y2.2.2.1 k n = w2.2.2.1 k n := fun k n z1 z2 z3 => by
    rw [y1' k n z2, x0.2.2.1 k n ?_, hQ3.2.1 k n z1 z3]
    by_cases z : grp k = 32
    · rw [z] at z3; exact Or.inr (Or.inr (by omega))
    · by_cases zk : k < 23
      · exact Or.inl zk
      · by_cases z31 : 31 < k
        · exact Or.inr (Or.inl z31)
        · exact absurd (by unfold grp; rw [if_pos (by omega)]) z
  have y19 : A Y2 23 (Q 32) = 19 := by
    show (Y2.2.2.1 23 (Q 32)).toInt = _
    rw [back 23 (Q 32) (by decide) (Or.inl (by decide)) (by show Q 32 < Q2 32; omega), a8.1.2.1 23 (Q 32) (by decide) (by show Q 32 < qst Q 32 (Q 32 + 1) 32; omega), v23]; rfl
  refine pp_end ⟨b', cm2, qst Q3 32 (Q3 32 + 1), sc3, Q3 32, 2, [], rfl, ⟨by omega, by rw [qst_at]; omega⟩, ⟨⟨by omega, by omega, a1.2.2.1, a1.2.2.2⟩, hC4, ⟨hY2, ?_⟩, by omega, ⟨W, HDx_tr (by omega) a1.1 (HDx_gap gap) F53, ?_⟩, ⟨fun k k1 k2 => ?_, fun k k1 k2 k3 => ?_, fun j hj => ?_, fun k j k1 k2 k3 => ?_, fun j hj => ?_, fun j hj => ?_⟩, ⟨hQY2, fun k hk => ?_, ?_⟩, fun z => (by rw [hg] at z; cases z), fun n hn => (by cases hn), fun C P R J H fi hx => ?_⟩, ⟨by omega, by omega⟩, RTd_1 y28 ⟨by rw [y23]; decide, by rw [y23]; decide⟩ rfl ⟨by omega, by rw [qst_at]; omega⟩, fun n hn => by cases hn⟩
  · rw [qst_no (by decide), F4.2.2 56 (by decide)]; exact a3.2
  · rw [mo2 42 (by decide), F2 42 (by decide), a6, ptcs_r (by decide), ← wup_tr (p := lo) (q := lo + 1) (p2 := hi) (by omega) a1.1, wup_0 (p := lo) gap]
  · rw [m4i, F3 k k1 k2, a7.1 k k1 k2]; exact ptcs_i k1
  · rw [mo2 k k1, F2 k k1, a7.2.1 k k1 k2 k3]; exact ptcs_r k1
  · rw [mo j (by omega), F1 j (by omega), a7.2.2.1 j (by omega)]; exact ptcs_o (Or.inl hj)
  · rw [mo2 k (by omega), F2 k (by omega), a7.2.2.2.1 k j k1 k2 k3, ptcs_r (by omega)]
  · rw [mo2 40 (by decide), F2 40 (by decide), a7.2.2.2.2.1 j hj, ptcs_r (by decide)]
  · rw [mo2 41 (by decide), F2 41 (by decide), a7.2.2.2.2.2 j hj, ptcs_r (by decide)]
  · have := a8.2.1 k hk
    by_cases z : k = 32
    · rw [z, qst_at]; omega
    · rw [qst_no z] at this
      rw [qst_no z, F4.2.2 k z]; exact this
  · have := a8.2.2
    rw [qst_no (by decide), qst_no (by decide), qst_no (by decide)] at this
    rw [qst_no (by decide), qst_no (by decide), qst_no (by decide), F4.2.2 75 (by decide), F4.2.2 77 (by decide), F4.2.2 83 (by decide)]
    exact this
  · have hx2 : HNX nm (e2 :: t2) cm2 H := by
      rcases hcase with ⟨-, -, -, -, rfl, -⟩ | ⟨-, -, -, -, rfl, -⟩
      · exact hx
      · exact hx
    have hx0 : HNX nm (e :: t) cm H := HNX_mo a5.1 a1.2.2.1 hx2
    have fi2 : FNd w0 fof cvr C P R J m2 w2 (a + 2) b q r (qst Q 32 (Q 32 + 1)) Q2 lst [] := by
      refine FIN_sub fi ⟨by omega, by omega⟩ ⟨Nat.le_refl _, Nat.le_refl _⟩ (QLE_st QLE_rf (by omega)) (fun k hk => ?_) (fun j z1 z2 => ?_) (fun k u z1 z2 _ _ => ?_) ⟨fun k n z1 z2 z3 z4 z5 => ?_, fun n _ z => ?_⟩ (fun n z1 z2 => ?_)
      · by_cases z : k = 32
        · rw [z, qst_at]; omega
        · rw [qst_no z, F4.2.2 k z]; exact Nat.le_refl _
      · rw [mo j (by omega), F1 j z2]
      · rw [mo2 k (by omega), F2 k (by omega)]
      · refine back k n z1 ?_ z5
        by_cases z : n = Q 32
        · subst z
          by_cases zk : grp k = 32
          · rw [zk, qst_at] at z4; omega
          · exact Or.inl (fun zz => zk (by rw [zz]; rfl))
        · exact Or.inr z
      · rw [y3', x0.2.2.2]; exact hQ3.2.2 34 n (Or.inr z)
      · have e30 : A Y2 30 n = A w2 30 n := congrArg Int32.toInt (back 30 n (by decide) (Or.inl (by decide)) z2)
        rw [e30]
    obtain ⟨f1, f2'⟩ := a11 C P R J H fi2 hx2
    refine ⟨f1, fun y hy hr => ?_⟩
    have yn : y = none := hy.mpr hg
    have gc := fi.1
    have ro : ∀ k i, 23 ≤ k ∧ k ≤ 31 → k ≠ 27 ∧ k ≠ 29 ∧ k ≠ 30 → Q 32 ≤ i → i ≤ Q3 32 → R k i = A Y2 k i := fun k i k1 k2 i1 i2 => FIN_R fi k1 k2 ⟨i1, by rw [qst_at]; omega⟩
    obtain ⟨dE, hE⟩ := hr
    rw [qst_at, F52] at hE
    have gcZ : ∀ j, a ≤ j → j < b' → j ≠ a + 1 → C j = (m3.2.2.1 23 j).toInt := fun j j1 j2 j3 => by
      rw [gc j j1 j2]
      show (Z.2.2.1 23 j).toInt = _
      rw [mo j j3]
    have c0 : C a = 29 := by
      rw [gcZ a (Nat.le_refl _) (by omega) (by omega), F1 a (by omega), a7.2.2.1 a (by omega)]
      have := ptcs_at (l := [29, 0]) (m := m) (a := a) (k := 0) rfl
      rw [Nat.add_zero] at this
      rw [this]; rfl
    have c1v : C (a + 1) = ((b' : Nat) : Int) := by
      rw [gc (a + 1) (by omega) (by omega)]
      show (Z.2.2.1 23 (a + 1)).toInt = _
      rw [m4x]
      have := hC4.1.2.2.1.2.2
      exact I_ti (by omega) (by omega)
    have cb : C b = 30 := by rw [gcZ b (by omega) (by omega) (by omega), F55]; rfl
    have hI : CRe C R J y b (Q2 32) H (Onm nm (e2 :: t2)) := by
      obtain ⟨b1, b2⟩ := XB c.2.2.1 a2 hR2 hx2 (show Q2 32 < 16000 by omega)
      have oN2 : Onm nm (e2 :: t2) = e2.1.map nm := rfl
      rw [oN2] at b1 b2 ⊢
      rcases hcase with ⟨rfl, -, rfl, rfl, -, ee⟩ | ⟨hlt, rfl, rfl, rfl, -, -, v18, v25, tk2⟩
      · rw [ee]
        rw [ee] at b1 b2
        exact cr_1 b1 b2 ⟨dE, Or.inr (Or.inr (Or.inr (Or.inr (Or.inr (Or.inr (Or.inr (Or.inr (Or.inr (Or.inr (Or.inr (Or.inr (Or.inr (Or.inr (Or.inr (Or.inr (Or.inr (Or.inr (Or.inr (Or.inr (Or.inr (Or.inl ⟨(ro 23 _ (by decide) (by decide) (by omega) (Nat.le_refl _)).trans y23, cb, hE⟩)))))))))))))))))))))⟩
      · rw [qst_at] at hE y23 ro
        have cw : ∀ k z, [16, I ((e2.1.length - e.1.length : Nat) : Int)][k]? = some z → k < 2 → C (b + 1 + k) = z.toInt := fun k z hz hk => by
          rw [gcZ (b + 1 + k) (by omega) (by omega) (by omega)]
          show ((ptcs (ptc m2 b 30) (b + 1) _).2.2.1 23 (b + 1 + k)).toInt = _
          rw [ptcs_at hz]
        have cb1 : C (b + 1) = 16 := cw 0 16 rfl (by decide)
        have cb2 : C (b + 2) = ((e2.1.length - e.1.length : Nat) : Int) := (cw 1 _ rfl (by decide)).trans (I_ti (by have := nd_len 1400 _ hR2.1.2.2.2.1.2.2.2.1.1 hR2.1.2.2.2.1.2.2.2.1.2.1; omega) (by have := nd_len 1400 _ hR2.1.2.2.2.1.2.2.2.1.1 hR2.1.2.2.2.1.2.2.2.1.2.1; omega))
        have yw : ∀ k, 23 ≤ k ∧ k ≤ 31 → A Y2 k (Q2 32) = A w3 k (Q2 32) := fun k hk => by
          show (Y2.2.2.1 k (Q2 32)).toInt = _
          rw [y1' k _ (Or.inr (by omega)), x0.2.2.1 k _ (Or.inr (Or.inr (by rw [qst_at]; omega)))]; rfl
        refine cr_1 b1 b2 ⟨dE, Or.inr (Or.inr (Or.inr (Or.inr (Or.inr (Or.inr (Or.inr (Or.inr (Or.inr (Or.inr (Or.inr (Or.inr (Or.inr (Or.inr (Or.inr (Or.inr (Or.inr (Or.inr (Or.inr (Or.inl ⟨(ro 23 _ (by decide) (by decide) (by omega) (by omega)).trans ((yw 23 (by decide)).trans v18), (ro 23 _ (by decide) (by decide) (by omega) (by omega)).trans y23, cb, cb1, e.1.length, (ro 25 _ (by decide) (by decide) (by omega) (by omega)).trans ((yw 25 (by decide)).trans v25), ?_, ?_, ?_⟩)))))))))))))))))))⟩
        · rw [List.length_map]; omega
        · rw [cb2, List.length_map]
        · rw [← List.map_take, tk2]; exact hE
    obtain ⟨dI, hI⟩ := f2' y hy hI
    rw [qst_at] at hI
    obtain ⟨b1, b2⟩ := XB c.2.2.1 hC hR hx0 h16r
    have oN : Onm nm (e :: t) = e.1.map nm := rfl
    rw [oN] at hI b1 b2 ⊢
    exact cr_1 b1 b2 ⟨max dI dE, Or.inr (Or.inr (Or.inr (Or.inr (Or.inr (Or.inr (Or.inr (Or.inr (Or.inr (Or.inr (Or.inr (Or.inr (Or.inr (Or.inr (Or.inr (Or.inr (Or.inr (Or.inr (Or.inr (Or.inr (Or.inl ⟨(ro 23 _ (by decide) (by decide) (Nat.le_refl _) (by omega)).trans y19, yn, c0, ⟨b', Q3 32 + 1, c1v, (ro 25 _ (by decide) (by decide) (Nat.le_refl _) (by omega)).trans y2', CR_mo (Nat.le_max_right _ _) hE⟩, CR_mo (Nat.le_max_left dI dE) hI⟩))))))))))))))))))))⟩
end
