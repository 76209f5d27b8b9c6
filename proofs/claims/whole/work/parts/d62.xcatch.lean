/-! expressions: CATCH, both -/
set_option maxRecDepth 100000
section
variable {α β : Type} {m0 w0 m w m2 w2 m3 w3 v u w1 mS wS : MS} {K nm Nk W W2 : Nat → Nat} {N T D d o a a0 b b0 c cm cm0 cm2 cm3 q q0 r s lo lo0 mid hi i j f f2 n k kk p p2 σ tk x xa xb M m1 lv y : Nat} {Q Q0 Q2 Q3 Q4 : Nat → Nat} {sc sc0 sc2 sc3 t t2 : SCT} {e e2 : List Nat × List Nat × Nat} {g lst l2 : Bool} {L L1 L2 S : List Nat} {idc fof cvr : Int → Int → Int} {z : Unit} {rt v1 v2 v3 v4 v5 : Int32} {fc : MS → Unit → Option (MS × α)} {RR : MS → α → MS → β → Prop} {F : MS → Unit → Option (MS × β)}
/-- names are forgotten: what is done -/
theorem fg_op (c : CTZ m0 w0 K T nm Nk) (a2 : XCS m0 nm m2 b cm2 (e2 :: t2) g) (hR : XRS w0 T w2 p Q2 (e2 :: t2)) (n1 : e.1 <+: e2.1) (bt : tot t2 = tot t)
    (hend : ∀ m3 w3 b' Q3 sc3, XCS m0 nm m3 b' cm2 sc3 g → XRS w0 T w3 p Q3 sc3 → QRR Q2 w2 w3 → (∀ k, k < 23 ∨ (31 < k ∧ k ≠ 60) → w3.2.2.1 k = w2.2.2.1 k) → ((m3 = m2 ∧ w3 = w2 ∧ b' = b ∧ Q3 = Q2 ∧ sc3 = e2 :: t2 ∧ e2.1 = e.1) ∨ (e.1.length < e2.1.length ∧ m3 = upI (ptcs m2 b [16, I ((e2.1.length - e.1.length : Nat) : Int)]) 706 (I (tot (e :: t) : Nat)) ∧ b' = b + 2 ∧ Q3 = qst Q2 32 (Q2 32 + 1) ∧ sc3 = (e.1, e2.2) :: t2 ∧ Q2 32 < 16000 ∧ A w3 23 (Q2 32) = 18 ∧ A w3 25 (Q2 32) = ((e.1.length : Nat) : Int) ∧ e2.1.take e.1.length = e.1)) → PP RR (fc m3 ()) (F w3 ())) : PP RR (bnd (jm_Cm_forget N m2 (I (tot (e :: t) : Nat))) fc) (bnd (fm_M_unbind N w2 (I (e.1.length : Nat))) F) := by
  have rn := hR.1.2.2.2.1
  have tl : t2.length + 1 ≤ 27 := rn.2.1.2
  have t4 := c.2.1.1.1
  have le := n1.length_le
  have e706 : m2.1 706 = I (tot (e2 :: t2) : Nat) := a2.1.2.1.2.2.1
  have t4k : tot (e2 :: t2) ≤ 4000 := a2.1.2.1.2.2.2.1
  have et : tot (e2 :: t2) = tot t2 + e2.1.length := rfl
  have et0 : tot (e :: t) = tot t + e.1.length := rfl
  have h60 : w2.2.2.1 60 t2.length = I (e2.1.length : Nat) := rn.2.2.1.1.1
  have h65 : w2.1 65 = I (t2.length : Nat) := rn.1
  have l2 := nd_len 1400 _ rn.2.2.2.1.1 rn.2.2.2.1.2.1
  show PP RR (bnd (jb_Cm_forget_0 N () m2 (I (tot (e :: t) : Nat))) fc) (bnd (fb_M_unbind_0 N () w2 (I (e.1.length : Nat))) F)
  unfold jb_Cm_forget_0 jb_Cm_forget_30 fb_M_unbind_0 fb_M_unbind_41
  rw [e706, h65, i_nt2 (p := t2.length) (by omega), h60, decI (by omega) (by omega) (by omega) (by omega), decI (by omega) (by omega) (by omega) (by omega), bnd_ck]
  refine r_ck (fun _ => ?_)
  by_cases z : e2.1.length ≤ e.1.length
  · -- none has come
    have ee : e2.1 = e.1 := (n1.eq_of_length (by omega)).symm
    rw [decide_eq_true (by omega), decide_eq_true (by omega), br_t, br_t, lt_e, bnd_s, bnd_s]
    have : upI m2 706 (I (tot (e :: t) : Nat)) = m2 := upI_id (by rw [e706, et, et0, bt, ee])
    rw [this]
    exact hend m2 w2 b Q2 (e2 :: t2) a2 hR QRR_rf (fun _ _ => rfl) (Or.inl ⟨rfl, rfl, rfl, rfl, rfl, ee⟩)
  · rw [decide_eq_false (by omega), decide_eq_false (by omega), br_f, br_f]
    have s1 : ∀ x, (ptc m2 b x).1 706 - I (tot (e :: t) : Nat) = I ((e2.1.length - e.1.length : Nat) : Int) := fun x => by
      rw [ptc_i (by decide), e706, I_sub]
      congr 1
      omega
    rw [bnd_as2]
    refine l_put a2.1.2.2.1.1 a2.1.2.2.1.2.2 (fun ha => ?_)
    have c1 := XCS_put (x := 16) a2 ha
    rw [s1, bnd_as2]
    refine l_put c1.1.2.2.1.1 c1.1.2.2.1.2.2 (fun ha1 => ?_)
    have c2 := XCS_put (x := I ((e2.1.length - e.1.length : Nat) : Int)) c1 ha1
    rw [lt_e, bnd_s, bnd_as2]
    have em : ptc (ptc m2 b 16) (b + 1) (I ((e2.1.length - e.1.length : Nat) : Int)) = ptcs m2 b [16, I ((e2.1.length - e.1.length : Nat) : Int)] := rfl
    rw [em] at c2 ⊢
    obtain ⟨q1, q2⟩ := XRS_q hR
    rw [hR.1.2.1.1]
    have pT : p ≤ T := hR.1.2.1.2
    refine r_nod q1 q2 rfl (nsh (by omega)) (fun h16 => ?_)
    have d0 : NOD w2 (nwD w2 (Q2 32) 18 (I (p : Nat))) (Q2 32) := NOD_0 q1
    obtain ⟨d1, d2, d3, d4, d5, d6, d7, d8⟩ := nwD_at (w := w2) (i := Q2 32) (k := 18) (t := I (p : Nat))
    have d9 : (nwD w2 (Q2 32) 18 (I (p : Nat))).1 69 = I (p : Nat) := by rw [nwD_i (by decide)]; exact hR.1.2.1.1
    generalize nwD w2 (Q2 32) 18 (I (p : Nat)) = U at d0 d1 d2 d3 d4 d5 d6 d7 d8 d9
    rw [i_nt2 (p := Q2 32) (by omega), bnd_ck]
    refine r_ck (fun _ => ?_)
    rw [lt_e, bnd_ck]
    refine r_ck (fun _ => ?_)
    have hN : NOD w2 (upA U 25 (upd (U.2.2.1 25) (Q2 32) (I (e.1.length : Nat)))) (Q2 32) := NOD_A d0 (by decide)
    have v23 : A (upA U 25 (upd (U.2.2.1 25) (Q2 32) (I (e.1.length : Nat)))) 23 (Q2 32) = 18 := by
      show ((upA U 25 _).2.2.1 23 (Q2 32)).toInt = 18
      rw [upA_no (by decide), d1]; rfl
    have v25 : A (upA U 25 (upd (U.2.2.1 25) (Q2 32) (I (e.1.length : Nat)))) 25 (Q2 32) = ((e.1.length : Nat) : Int) := by
      show ((upA U 25 _).2.2.1 25 (Q2 32)).toInt = _
      rw [upA_at, upd_at]
      exact I_ti (by omega) (by omega)
    have v69 : (upA U 25 (upd (U.2.2.1 25) (Q2 32) (I (e.1.length : Nat)))).1 69 = I (p : Nat) := d9
    generalize upA U 25 (upd (U.2.2.1 25) (Q2 32) (I (e.1.length : Nat))) = V at hN v23 v25 v69
    have hX := XRS_n hR hN.1 (fun k hk => funext (fun j => hN.2.2.1 k j (by omega))) v69 pT hN.2.1 (by omega)
    have V65 : V.1 65 = I (t2.length : Nat) := hX.1.2.2.2.1.1
    rw [V65, i_nt2 (p := t2.length) (by omega), lt_e, bnd_s]
    -- the names now
    have tk : e2.1.take e.1.length = e.1 := by
      obtain ⟨l, hl⟩ := n1
      rw [← hl, List.take_left]
    have ok := rn.2.2.2
    have rnV := hX.1.2.2.2.1
    have okc : SOK ((e.1, e2.2) :: t2) := by
      obtain ⟨⟨o1, o2, o3, o4, o5, o6, o7⟩, o8⟩ := ok
      exact ⟨⟨o1.sublist n1.sublist, fun x hx => o2 x (n1.subset hx), o3, by show e.1.length ≤ e2.2.2; omega, o5, o6, o7⟩, o8⟩
    have rnc : RNs (upA V 60 (upd (V.2.2.1 60) t2.length (I (e.1.length : Nat)))) ((e.1, e2.2) :: t2) := by
      obtain ⟨⟨r1, r2, r3, r4, r5⟩, r6⟩ := rnV.2.2.1
      refine ⟨rnV.1, rnV.2.1, ⟨⟨by rw [upA_at, upd_at], fun k x hk => ?_, by rw [upA_no (by decide)]; exact r3, fun k x hk => by rw [upA_no (by decide)]; exact r4 k x hk, by rw [upA_no (by decide)]; exact r5⟩, ?_⟩, okc⟩
      · rw [upA_no (by decide)]
        exact r2 k x (pre_getd n1 hk)
      · exact RNl_60 r6 (Nat.le_refl _)
    have hfc : HFl (upA V 60 (upd (V.2.2.1 60) t2.length (I (e.1.length : Nat)))) ((e.1, e2.2) :: t2) := by
      have := hX.1.2.2.2.2.1
      exact ⟨fun k x hk => by rw [upA_no (by decide)]; exact this.1 k x hk, HFl_fr ok.2 this.2 (fun j _ => by rw [upA_no (by decide)])⟩
    have hXc : XRS w0 T (upA V 60 (upd (V.2.2.1 60) t2.length (I (e.1.length : Nat)))) p (qst Q2 32 (Q2 32 + 1)) ((e.1, e2.2) :: t2) := by
      obtain ⟨x1, x2, x3, x4, x5, x6⟩ := hX.1
      refine ⟨⟨⟨x1.1, fun k hk => ?_⟩, x2, x3, rnc, hfc, x6⟩, hX.2⟩
      have : k < 23 := by unfold TRW at hk; simp only [List.mem_cons, List.not_mem_nil, or_false] at hk; omega
      rw [upA_no (by omega)]; exact x1.2 k hk
    have hQ : QRR Q2 w2 (upA V 60 (upd (V.2.2.1 60) t2.length (I (e.1.length : Nat)))) := QRR_S (QRR_N hN (Nat.le_refl _)) (by omega)
    have wr : ∀ k, k < 23 ∨ (31 < k ∧ k ≠ 60) → (upA V 60 (upd (V.2.2.1 60) t2.length (I (e.1.length : Nat)))).2.2.1 k = w2.2.2.1 k := fun k hk => by
      rw [upA_no (by omega)]
      exact funext (fun j => hN.2.2.1 k j (by omega))
    have vr : ∀ k i, 23 ≤ k → k ≤ 58 → A (upA V 60 (upd (V.2.2.1 60) t2.length (I (e.1.length : Nat)))) k i = A V k i := fun k i h1 h2 => by
      show ((upA V 60 _).2.2.1 k i).toInt = _
      rw [upA_no (by omega)]; rfl
    generalize upA V 60 (upd (V.2.2.1 60) t2.length (I (e.1.length : Nat))) = X at hXc hQ vr wr
    have cc : XCS m0 nm (upI (ptcs m2 b [16, I ((e2.1.length - e.1.length : Nat) : Int)]) 706 (I (tot (e :: t) : Nat))) (b + 2) cm2 ((e.1, e2.2) :: t2) g := by
      obtain ⟨⟨p1, p2, p3, p4, p5, p6, p7⟩, p8⟩ := c2
      have tc : tot ((e.1, e2.2) :: t2) = tot (e :: t) := by show tot t2 + e.1.length = tot t + e.1.length; rw [bt]
      obtain ⟨q1, q2, q3⟩ := p2.2.2.2.2
      refine ⟨⟨⟨fun k hk => by rw [upI_ne (by omega)]; exact p1.1 k hk, p1.2⟩, ⟨by rw [upI_ne (by decide)]; exact p2.1, p2.2.1, by rw [upI_at, tc], by rw [tc]; omega, ⟨q1, fun k x hk => q2 k x (pre_getd n1 hk), CNl_fr q3 rfl (fun _ _ => rfl)⟩⟩, ⟨by rw [upI_ne (by decide)]; exact p3.1, p3.2⟩, by rw [upI_ne (by decide)]; exact p4, p5, p6, ?_⟩, by rw [upI_ne (by decide)]; exact p8⟩
      have p7 : e2.1.length ≤ cm2 := p7
      show e.1.length ≤ cm2
      omega
    refine hend _ X (b + 2) (qst Q2 32 (Q2 32 + 1)) ((e.1, e2.2) :: t2) cc hXc hQ wr (Or.inr ⟨by omega, rfl, rfl, rfl, rfl, h16, (vr 23 _ (by decide) (by decide)).trans v23, (vr 25 _ (by decide) (by decide)).trans v25, tk⟩)
end
