/-! GUARDS, both: all of it -/
set_option maxRecDepth 100000
section
variable {α β : Type} {m0 w0 m w m2 w2 m3 w3 v u w1 mS wS : MS} {K nm Nk W W2 : Nat → Nat} {N T D d o a a0 b b0 c cm cm0 cm2 cm3 q q0 r s lo lo0 mid hi i j f f2 n k kk p p2 σ tk x xa xb M m1 lv y kf : Nat} {Q Q0 Q2 Q3 Q4 : Nat → Nat} {sc sc0 sc2 sc3 t t2 : SCT} {e e2 : List Nat × List Nat × Nat} {g g2 lst l2 : Bool} {L L1 L2 S : List Nat} {idc fof cvr : Int → Int → Int} {z : Unit} {rt v1 v2 v3 v4 v5 t4 t5 xw : Int32} {fc : MS → Int32 → Option (MS × α)} {RR : MS → α → MS → β → Prop} {F : MS → Int32 → Option (MS × β)}
theorem XCS_712 (h : XCS m0 nm m a cm sc g) (hx : decide (xw = 0) = !g2) : XCS m0 nm (upI m 712 xw) a cm sc g2 := by
  obtain ⟨⟨h1, h3, h4, h5, h6, h7⟩, h8⟩ := h
  exact ⟨⟨⟨fun k hk => by rw [upI_ne (by omega)]; exact h1.1 k hk, h1.2⟩, ⟨by rw [upI_ne (by decide)]; exact h3.1, h3.2.1, by rw [upI_ne (by decide)]; exact h3.2.2.1, h3.2.2.2.1, CNl_fr h3.2.2.2.2 rfl (fun _ _ => rfl)⟩, ⟨by rw [upI_ne (by decide)]; exact h4.1, h4.2⟩, by rw [upI_ne (by decide)]; exact h5, h6, h7⟩, by rw [upI_at]; exact hx⟩
/-- what GUARDS do, chosen behind them -/
def GCD (w0 : MS) (nm : Nat → Nat) (fof cvr : Int → Int → Int) (a b cm2 q r : Nat) (Q Q2 : Nat → Nat) (sc sc2 : SCT) (m2 w2 : MS) : Prop := ∀ C P R J H lst, FNd w0 fof cvr C P R J m2 w2 a b q r Q Q2 lst [] → HNX nm sc2 cm2 H → (∀ u, q ≤ u → u < r → FUX C P R J u) ∧ ∀ kd k s, (∃ d, CHs C R (CRs C R J d) kd b k H (Onm nm sc2)) → CRe C R J (some (kd, k, s)) a (Q 32) H (Onm nm sc)
theorem gd_all (c : CTZ m0 w0 K T nm Nk) (IE : HXE N m0 w0 K T nm Nk fof cvr f) (hE : RWcK m0 1 26 (XPcK m0 f o 3) k x lo hi xa xb q r) (hxb : xb ≤ 8015) (hr4 : r ≤ 400) (hcl : NEC (K hi) ∧ K hi ≠ 26 ∧ hi ≤ T) (hC : XCS m0 nm m a cm sc false) (hR : XRS w0 T w lo Q sc) (hq : Q 56 = q) (htot : tot sc + (hi - lo) ≤ 4000 ∧ sc.length ≤ o + 1) (hn : n ≤ 8015) (h19 : A m0 19 n = ((x : Nat) : Int))
    (hh : ∀ m5 w5 b cm2 Q5 sc2, XTF m0 w0 K T nm Nk false [] lo hi a b cm cm2 q r Q Q5 sc sc2 m w m5 w5 → (hdS sc2).1 = (hdS sc).1 → a + 3 < b → (m5.2.2.1 23 a = 21 ∧ m5.2.2.1 23 (a + 1) = m.1 706 - v3 ∧ m5.2.2.1 23 (a + 2) = v4) → GCD w0 nm fof cvr (a + 3) b cm2 q r Q Q5 sc sc2 m5 w5 → PP RR (fc m5 (I ((a + 2 : Nat) : Int))) (F w5 (I (Q 32 : Nat)))) : PP RR (bnd (jb_Cm_tries_111 N (jrc_Cm_fun N D) (jg_Cm_tries N (jrc_Cm_fun N D) kf) m (I (n : Nat)) v3 v4) fc) (bnd (km_M_guardCode N (krc_M_behind N d) w) F) := by
  have tt4 := c.2.1.1.1
  have fr := XCS_fr hC
  have hb : BdE (XPcK m0 f o 3) := XP_bdK f o 3
  have hd := (RW_hdK hb hE).1
  unfold HDc at hd
  obtain ⟨e, t, rfl⟩ := PRS_ne hR.1
  have rn := hR.1.2.2.2.1
  have tl : t.length + 1 ≤ 27 := rn.2.1.2
  have h60 : w.2.2.1 60 t.length = I (e.1.length : Nat) := rn.2.2.1.1.1
  have h65 : w.1 65 = I (t.length : Nat) := rn.1
  have z712 : m.1 712 = 0 := of_decide_eq_true (by have := hC.2; exact this)
  unfold jb_Cm_tries_111
  rw [bnd_ck, i_nt2 (show n ≤ 100000 by omega), tre fr (by decide) h19]
  refine l_ck (fun _ => ?_)
  rw [decide_eq_false (fun z => by
    have := (I_eq (x := ((x : Nat) : Int)) (y := 0) (by omega) (by omega) (by decide) (by decide)).mp z
    omega), br_f, bnd_lt, lt_e, bnd_as2]
  have k0 := XCS_712 (g2 := true) (xw := 1) hC rfl
  refine l_put k0.1.2.2.1.1 k0.1.2.2.1.2.2 (fun ha => ?_)
  have k1 := XCS_put (x := 21) k0 ha
  rw [bnd_as2]
  refine l_put k1.1.2.2.1.1 k1.1.2.2.1.2.2 (fun ha1 => ?_)
  have e706 : (ptc (upI m 712 1) a 21).1 706 = m.1 706 := by rw [ptc_i (by decide), upI_ne (by decide)]
  rw [e706]
  have k2 := XCS_put (x := m.1 706 - v3) k1 ha1
  unfold jm_Co_hook jb_Co_hook_0
  rw [bnd_as2, bnd_as2]
  refine l_put k2.1.2.2.1.1 k2.1.2.2.1.2.2 (fun ha2 => ?_)
  have k3 := XCS_put (x := v4) k2 ha2
  rw [bnd_s]
  have em : ptc (ptc (ptc (upI m 712 1) a 21) (a + 1) (m.1 706 - v3)) (a + 1 + 1) v4 = ptcs (upI m 712 1) a [21, m.1 706 - v3, v4] := rfl
  rw [em] at k3 ⊢
  have e441 : (ptcs (upI m 712 1) a [21, m.1 706 - v3, v4]).1 441 = I ((a + 2 + 1 : Nat) : Int) := k3.1.2.2.1.1
  rw [e441, I_sn, bnd_ck, tre (XCS_fr k3) (by decide) h19, z712]
  refine l_ck (fun _ => ?_)
  -- here
  unfold km_M_guardCode kb_M_guardCode_0 kb_M_guardCode_37
  rw [h65, i_nt2 (p := t.length) (by omega), h60, bnd_ck]
  refine r_ck (fun _ => ?_)
  rw [bnd_lt]
  refine r_lt ?_
  rw [bnd_lt]
  refine r_lt ?_
  have hX := XRS_I (k := 73) (x := 1) hR (by decide) (by decide)
  obtain ⟨q1, q2⟩ := XRS_q hR
  rw [decide_eq_true hX.1.2.2.1, br_t, q1]
  have k3' : XCS m0 nm (ptcs (upI m 712 1) a [21, m.1 706 - v3, v4]) (a + 3) cm (e :: t) true := k3
  refine gd_lp (lst := false) (o := o) (hi := hi) (lo0 := lo) c IE hxb hr4 hcl htot (fun M kf m2 w2 b cm2 Q2 sc2 hab ht => ?_) k x lo xa q N kf _ _ _ cm Q (e :: t) hE (XTR_rf k3' hX hq)
  obtain ⟨hF, hcd⟩ := XTF_of ht
  obtain ⟨a1, a2, a3, a4, ⟨W, a5, a6⟩, a7, a8, a9, a10⟩ := hF
  have same := a9 rfl
  have nx := (a5.2 rfl).2
  cases sc2 with
  | nil => exact nx.elim
  | cons e2 t2 =>
  obtain ⟨n1, n2, n3⟩ := nx
  have same : e2.1 = e.1 := same
  have t2l : t2.length = t.length := by have := NWX_len (a5.2 rfl).2; exact Nat.succ.inj this
  cases kf with
  | zero => exact pp_nl
  | succ kf =>
  cases M with
  | zero => exact pp_nr
  | succ M =>
  show PP RR (bnd (jb_Cm_tries_181 N (jrc_Cm_fun N D) (jg_Cm_tries N (jrc_Cm_fun N D) kf) m2 (I ((a + 2 : Nat) : Int)) 0 (I ((0 : Nat) : Int))) fc) (bnd (kb_M_guardCode_39 N (krc_M_behind N d) (kg_M_guardCode N (krc_M_behind N d) M) w2 (I (Q 32 : Nat)) (w.1 73) (I (e.1.length : Nat)) 0) F)
  unfold jb_Cm_tries_181 kb_M_guardCode_39
  rw [show decide (I ((0 : Nat) : Int) = (0 : Int32)) = true from rfl, br_t, show decide ((0 : Int32) = 0) = true from rfl, br_t, bnd_as2]
  refine l_put a2.1.2.2.1.1 a2.1.2.2.1.2.2 (fun ha3 => ?_)
  have c5 := XCS_712 (g2 := false) (xw := 0) (XCS_put (x := 23) a2 ha3) rfl
  rw [show isb 0 = true from rfl, ck_t, lt_e, bnd_s]
  have hR2 := a3.1
  obtain ⟨g1, g2⟩ := XRS_q hR2
  rw [hR2.1.2.1.1, bnd_as2]
  refine r_nod g1 g2 rfl (nsh (by omega)) (fun h16 => ?_)
  have hN : NOD w2 (nwD w2 (Q2 32) 23 (I (hi : Nat))) (Q2 32) := NOD_0 g1
  obtain ⟨d1, -⟩ := nwD_at (w := w2) (i := Q2 32) (k := 23) (t := I (hi : Nat))
  have d9 : (nwD w2 (Q2 32) 23 (I (hi : Nat))).1 69 = I (hi : Nat) := by rw [nwD_i (by decide)]; exact hR2.1.2.1.1
  generalize nwD w2 (Q2 32) 23 (I (hi : Nat)) = U at hN d1 d9
  rw [bnd_ck]
  refine r_ck (fun _ => ?_)
  rw [bnd_lt]
  refine r_lt ?_
  have u65 : (upI U 73 (w.1 73)).1 65 = I (t.length : Nat) := by
    rw [upI_ne (by decide), hN.1 65 (by decide)]
    have := hR2.1.2.2.2.1.1
    rw [← t2l]; exact this
  rw [u65, i_nt2 (p := t.length) (by omega), bnd_ck]
  refine r_ck (fun _ => ?_)
  rw [bnd_lt]
  refine r_lt ?_
  rw [bnd_s]
  have u60 : upd ((upI U 73 (w.1 73)).2.2.1 60) t.length (I (e.1.length : Nat)) = U.2.2.1 60 := funext (fun j => by
    show (if j = t.length then I (e.1.length : Nat) else U.2.2.1 60 j) = U.2.2.1 60 j
    by_cases z : j = t.length
    · rw [if_pos z, z, hN.2.2.1 60 _ (by omega), ← same, ← t2l]
      exact hR2.1.2.2.2.1.2.2.1.1.1.symm
    · rw [if_neg z])
  have y1 : ∀ k, (upA (upI U 73 (w.1 73)) 60 (upd ((upI U 73 (w.1 73)).2.2.1 60) t.length (I (e.1.length : Nat)))).2.2.1 k = U.2.2.1 k := fun k => by
    by_cases z : k = 60
    · rw [z, upA_at, u60]
    · rw [upA_no z]; rfl
  have y2 : ∀ k, k ≠ 73 → (upA (upI U 73 (w.1 73)) 60 (upd ((upI U 73 (w.1 73)).2.2.1 60) t.length (I (e.1.length : Nat)))).1 k = U.1 k := fun k hk => upI_ne hk
  have y3 : (upA (upI U 73 (w.1 73)) 60 (upd ((upI U 73 (w.1 73)).2.2.1 60) t.length (I (e.1.length : Nat)))).2.2.2 = U.2.2.2 := rfl
  generalize upA (upI U 73 (w.1 73)) 60 (upd ((upI U 73 (w.1 73)).2.2.1 60) t.length (I (e.1.length : Nat))) = Y at y1 y2 y3
  have hY : XRS w0 T Y hi (qst Q2 32 (Q2 32 + 1)) (e2 :: t2) := XRS_n hR2 (fun k hk => (y2 k (by rintro rfl; revert hk; decide)).trans (hN.1 k hk)) (fun k hk => (y1 k).trans (funext (fun j => hN.2.2.1 k j (by omega)))) ((y2 69 (by decide)).trans d9) hcl.2.2 ((y2 32 (by decide)).trans hN.2.1) (by omega)
  have hNY : QRR Q2 w2 Y := QRR_e (QRR_N hN (Nat.le_refl _)) (funext y1) y3
  have a23 : A Y 23 (Q2 32) = 23 := by
    show (Y.2.2.1 23 (Q2 32)).toInt = _
    rw [y1, d1]; rfl
  have mo : ∀ j, j ≠ b → (upI (ptc m2 b 23) 712 0).2.2.1 23 j = m2.2.2.1 23 j := fun j hj => ptc_o hj
  have mb : (upI (ptc m2 b 23) 712 0).2.2.1 23 b = 23 := ptcs_at (l := [23]) (k := 0) rfl
  have mr : ∀ k, k ≠ 23 → (upI (ptc m2 b 23) 712 0).2.2.1 k = m2.2.2.1 k := fun k hk => ptc_r hk
  have mi : ∀ k, k ≠ 441 → k ≠ 712 → (upI (ptc m2 b 23) 712 0).1 k = m2.1 k := fun k h1 h2 => by rw [upI_ne h2, ptc_i h1]
  have mz : (upI (ptc m2 b 23) 712 0).1 712 = 0 := upI_at
  generalize upI (ptc m2 b 23) 712 0 = Z at c5 mo mb mr mi mz
  have wd : ∀ k z, [21, m.1 706 - v3, v4][k]? = some z → k < 3 → Z.2.2.1 23 (a + k) = z := fun k z hz hk => by
    rw [mo (a + k) (by omega), a7.2.2.1 (a + k) (by omega)]
    exact ptcs_at hz
  refine hh Z Y (b + 1) cm2 (qst Q2 32 (Q2 32 + 1)) (e2 :: t2) ⟨⟨a1.1, by omega, a1.2.2⟩, c5, ⟨hY, by rw [qst_no (by decide)]; exact a3.2⟩, a4, ⟨W, a5, ?_⟩, ⟨fun k k1 k2 => ?_, fun k k1 k2 k3 => ?_, fun j hj => ?_, fun k j k1 k2 k3 => ?_, fun j hj => ?_, fun j hj => ?_⟩, ⟨QRR_tr (w := w) (v := w2) a8.1 hNY a8.2.1, QLE_st a8.2.1 (by have := a8.2.1 32 (by decide); omega), by rw [qst_no (by decide), qst_no (by decide), qst_no (by decide)]; exact a8.2.2⟩, fun y => (by cases y), fun n hn => (by cases hn)⟩ same (by omega) ⟨wd 0 _ rfl (by decide), wd 1 _ rfl (by decide), wd 2 _ rfl (by decide)⟩ (fun C P R J H lst fi hx => ?_)
  · rw [mr 42 (by decide), a6, ptcs_r (by decide)]; rfl
  · by_cases z : k = 712
    · rw [z, mz, z712]
    · rw [mi k k1 z, a7.1 k k1 k2, ptcs_i k1, upI_ne z]
  · rw [mr k k1, a7.2.1 k k1 k2 k3, ptcs_r k1]; rfl
  · rw [mo j (by omega), a7.2.2.1 j (by omega), ptcs_o (Or.inl hj)]; rfl
  · rw [mr k (by omega), a7.2.2.2.1 k j k1 k2 k3, ptcs_r (by omega)]; rfl
  · rw [mr 40 (by decide), a7.2.2.2.2.1 j hj, ptcs_r (by decide)]; rfl
  · rw [mr 41 (by decide), a7.2.2.2.2.2 j hj, ptcs_r (by decide)]; rfl
  · have fi2 : FNd w0 fof cvr C P R J m2 w2 (a + 3) b q r Q Q2 false [] := by
      refine FIN_sub fi ⟨Nat.le_refl _, by omega⟩ ⟨Nat.le_refl _, Nat.le_refl _⟩ QLE_rf (QLE_st QLE_rf (by omega)) (fun j z1 z2 => mo j (by omega)) (fun k u z1 z2 _ _ => by rw [mr k (by omega)]) (SAM_q hNY) (fun n z1 z2 => ?_)
      have e30 : A Y 30 n = A w2 30 n := congrArg Int32.toInt (hNY.2.1 30 n (by decide) z2)
      rw [if_neg (fun z => by cases z.2), if_neg (fun z => by cases z.1), e30]
    obtain ⟨f1, f3⟩ := hcd C P R J H fi2 hx
    refine ⟨f1, fun kd k s hch => f3 (some (kd, k, s)) ⟨fun z => (by cases z), fun z => (by cases z)⟩ ?_⟩
    have gc := fi.1
    have q32 : Q 32 ≤ Q2 32 := a8.2.1 32 (by decide)
    have R23 : R 23 (Q2 32) = 23 := (FIN_R fi (by decide) (by decide) ⟨q32, by rw [qst_at]; omega⟩).trans a23
    have cb : C b = 23 := by
      rw [gc b (by omega) (by omega)]
      show (Z.2.2.1 23 b).toInt = _
      rw [mb]; rfl
    obtain ⟨b1, b2⟩ := XB c.2.2.1 a2 hR2 hx h16
    obtain ⟨d, hd⟩ := hch
    exact cr_1 b1 b2 ⟨d, Or.inr (Or.inr (Or.inr (Or.inr (Or.inr (Or.inr (Or.inr (Or.inr (Or.inr (Or.inr (Or.inr (Or.inr (Or.inr (Or.inr (Or.inr (Or.inr (Or.inr (Or.inr (Or.inr (Or.inr (Or.inr (Or.inr (Or.inr (Or.inr (Or.inl ⟨R23, cb, kd, k, s, rfl, hd⟩))))))))))))))))))))))))⟩
end
