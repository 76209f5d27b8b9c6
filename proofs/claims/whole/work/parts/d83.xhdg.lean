/-! a part, both: its PATTERN and its GUARD -/
set_option maxRecDepth 100000
/-- what stands behind the arrow of a part, here -/
def kpC (N : Nat) (S : SG_M_behind) (G : MS → Int32 → Int32 → Int32 → Int32 → Int32 → Option (MS × Int32)) (w4 : MS) (v1 v2 v3 v4 v6 v7 : Int32) : Option (MS × Int32) := bnd (S.2.2.2.2.1 w4) (fun u5 r5 => bnd (fm_M_addRoot N u5 v2 r5) (fun u6 _ => bnd (fm_M_unbind N u6 v7) (fun u7 _ => bnd (fm_M_node N u7 26 (u7.1 69)) (fun u8 r8 => ck (inb r8 (ln 25)) (lt (upA u8 25 (upd (u8.2.2.1 25) r8.toNatClampNeg (-2))) (fun w9 => ck (inb r8 (ln 26)) (lt (upA w9 26 (upd (w9.2.2.1 26) r8.toNatClampNeg v2)) (fun w10 => br (decide (v4 = (-1))) (kb_M_parts0_214 N S G w10 (v1) (v2) (v6) (v6)) (ck (inb v4 (ln 45)) (lt (upA w10 45 (upd (w10.2.2.1 45) v4.toNatClampNeg v6)) (fun w11 => kb_M_parts0_214 N S G w11 (v1) (v2) (v3) (v6))))))))))))
/-- what the head of a part does; fs: the hooks of its failures -/
def HDG (w0 : MS) (nm : Nat → Nat) (fof cvr : Int → Int → Int) (kd a b cm2 q r k : Nat) (Q Q2 : Nat → Nat) (sc sc2 : SCT) (m2 w2 : MS) (fs : List Nat) : Prop := ∀ (C : Nat → Int) (P R : Nat → Nat → Int) (J : Nat → Int64) (H : List Nat) (lst : Bool) (fl scn : Nat), FNx w0 fof cvr C P R J m2 w2 a b q r Q Q2 lst [] fs [k] → HNX nm sc2 cm2 H → 0 < fl → (∀ h, h ∈ fs → C h = ((fl : Nat) : Int)) → (∀ u, q ≤ u → u < r → FUX C P R J u) ∧ ((∃ f, ZRs C R J (CRs C R J f) kd scn H (Onm nm sc) f fl (R 45 k)) → (∃ f, CHs C R (CRs C R J f) kd b k H (Onm nm sc2)) → ∃ f, ZRs C R J (CRs C R J f) kd scn H (Onm nm sc) f a ((k : Nat) : Int))
section
variable {α β : Type} {m0 w0 m w m2 w2 m3 w3 v u w1 mS wS V : MS} {K nm Nk W W2 : Nat → Nat} {N T D d o a a0 b b0 c cm cm0 cm2 cm3 q q0 r s lo lo0 mid hi i j f f2 n k kk kd p p2 σ tk x xa xb xc xd M m1 lv y kf : Nat} {Q Q0 Q2 Q3 Q4 : Nat → Nat} {sc sc0 sc2 sc3 t t2 : SCT} {e e2 : List Nat × List Nat × Nat} {g g2 lst l2 : Bool} {L L1 L2 S : List Nat} {l : List Int32} {idc fof cvr : Int → Int → Int} {z : Unit} {rt v1 v2 v3 v4 v5 x2 x3 x4 t4 t5 xw : Int32} {fc : MS → Int32 → Option (MS × α)} {RR : MS → α → MS → Int32 → Prop} {G : MS → Int32 → Int32 → Int32 → Int32 → Int32 → Option (MS × Int32)}
theorem W46_rw (h : XTF m0 w0 K T nm Nk g L lo hi a b cm cm2 q r Q Q2 sc sc2 m w m2 w2) (hw : W46 w2 V j k xw) (hj : 40 ≤ j ∧ j ≤ 45) (hk : Q 46 ≤ k) : XTF m0 w0 K T nm Nk g L lo hi a b cm cm2 q r Q Q2 sc sc2 m w m2 V := by
  refine XTF_rw h hw.1 (fun k' n hn => hw.2.2.1 k' n ?_) hw.2.1
  by_cases z : k' = j
  · subst z
    have gk : grp k' = 46 := by unfold grp; rw [if_neg (by omega), if_neg (by omega), if_pos hj]
    rw [gk] at hn
    exact Or.inr (by omega)
  · exact Or.inl z
/-- the row of the GUARD, the arrow, the row of the body -/
theorem rd_43 {A' : Option (MS × α)} {RR : MS → α → MS → Int32 → Prop} (c : CTZ m0 w0 K T nm Nk) (hX : XTF m0 w0 K T nm Nk false L lo mid a b cm cm2 q r Q Q2 sc sc2 m w m2 w2) (hk : Q 46 ≤ k ∧ k ≤ 16000) (hmT : mid < T) (h : ∀ V, XTF m0 w0 K T nm Nk false L lo (mid + 1) a b cm cm2 q r Q Q2 sc sc2 m w m2 V → V.2.2.2 = w2.2.2.2 → (∀ i n, (i ≠ 42 ∧ i ≠ 43) ∨ n ≠ k → V.2.2.1 i n = w2.2.2.1 i n) → V.2.2.1 42 k = rt → V.2.2.1 43 k = I (Q2 32 : Nat) → PP RR A' (kpC N (krc_M_behind N (d + 1)) G V v1 v2 v3 v4 (I (k : Nat)) v5)) : PP RR A' (kb_M_parts0_127 N (krc_M_behind N (d + 1)) G w2 v1 v2 v3 v4 (I (k : Nat)) v5 42 (I (k : Nat)) rt) := by
  unfold kb_M_parts0_127
  rw [i_nt2 (p := k) (by omega)]
  refine r_ck (fun _ => r_ck (fun _ => r_lt ?_))
  have h1 : W46 w2 (upA w2 42 (upd (w2.2.2.1 42) k rt)) 42 k rt := w46_of
  generalize upA w2 42 (upd (w2.2.2.1 42) k rt) = V1 at h1
  have X1 := W46_rw hX h1 (by omega) hk.1
  refine nd_s c X1.2.2.1.1 (k := 38) (s' := 10) (by decide) rfl (fun k38 => ?_)
  have X2 := XTF_ad X1 hmT (by rw [k38]; decide)
  have e32 : (adv V1 mid).1 32 = I (Q2 32 : Nat) := (XRS_q X2.2.2.1.1).1
  rw [e32]
  refine r_ck (fun _ => r_lt ?_)
  have h2 : W46 (adv V1 mid) (upA (adv V1 mid) 43 (upd ((adv V1 mid).2.2.1 43) k (I (Q2 32 : Nat)))) 43 k (I (Q2 32 : Nat)) := w46_of
  generalize upA (adv V1 mid) 43 (upd ((adv V1 mid).2.2.1 43) k (I (Q2 32 : Nat))) = V at h2
  have X3 := W46_rw X2 h2 (by omega) hk.1
  refine h V X3 ?_ (fun i n hin => ?_) ?_ h2.2.2.2
  · rw [h2.2.1]
    show V1.2.2.2 = _
    rw [h1.2.1]
  · rw [h2.2.2.1 i n (by omega)]
    show V1.2.2.1 i n = _
    rw [h1.2.2.1 i n (by omega)]
  · rw [h2.2.2.1 42 k (Or.inl (by decide))]
    show V1.2.2.1 42 k = _
    exact h1.2.2.2
/-- a row at the end of all -/
theorem FNx_R {hs ps : List Nat} {C : Nat → Int} {P R : Nat → Nat → Int} {J : Nat → Int64} (h : FNx w0 fof cvr C P R J m w a b q r Q Q2 lst L hs ps) (hj : 40 ≤ j ∧ j ≤ 44) (hk : Q 46 ≤ k ∧ k < Q2 46) : R j k = A w j k := by
  have gk : grp j = 46 := by unfold grp; rw [if_neg (by omega), if_neg (by omega), if_pos ⟨hj.1, by omega⟩]
  exact h.2.2.2.1.1 j k (by omega) (by omega) (by omega) (by omega) (by rw [gk]; decide) (by rw [gk]; exact hk.1) (by rw [gk]; exact hk.2) (fun z => by omega)
theorem Onm_sub (h : NWd sc sc2) (e1 : m.1 706 = I (tot sc : Nat)) (e2 : m2.1 706 = I (tot sc2 : Nat)) (hb : tot sc2 ≤ 4000) : (m2.1 706 - m.1 706).toInt = (((Onm nm sc2).length - (Onm nm sc).length : Nat) : Int) := by
  cases sc with
  | nil =>
    cases sc2 with
    | nil => rw [e1, e2, I_sub, Int.sub_self]; show (0 : Int) = _; rw [Nat.sub_self]; rfl
    | cons e t => exact h.elim
  | cons e t =>
    cases sc2 with
    | nil => exact h.elim
    | cons e' t' =>
      obtain ⟨n1, n2, -⟩ := h
      have le := n1.length_le
      have tt := (BDs_len n2).2
      have t1 : tot (e :: t) = tot t + e.1.length := rfl
      have t2 : tot (e' :: t') = tot t' + e'.1.length := rfl
      have l1 : (Onm nm (e :: t)).length = e.1.length := by unfold Onm; rw [List.length_map]; rfl
      have l2 : (Onm nm (e' :: t')).length = e'.1.length := by unfold Onm; rw [List.length_map]; rfl
      rw [e1, e2, I_sub, I_ti (by omega) (by omega), l1, l2]
      omega
theorem C_of {hs ps : List Nat} {C : Nat → Int} {P R : Nat → Nat → Int} {J : Nat → Int64} (h : FNx w0 fof cvr C P R J m w a b q r Q Q2 lst L hs ps) (hj : a ≤ j ∧ j < b) (hn : j ∉ hs) (hm : m.2.2.1 23 j = xw) : C j = xw.toInt := by
  rw [h.1 j hj.1 hj.2 hn]
  show (m.2.2.1 23 j).toInt = _
  rw [hm]
/-- a part with a PATTERN -/
theorem hdg_p (c : CTZ m0 w0 K T nm Nk) (cv : CTV m0 w0 K T) (IE : HXE N m0 w0 K T nm Nk fof cvr f) (hf : f ≤ 230) (hn : n ≤ 8015) (h18 : A m0 18 n = ((p : Nat) : Int)) (h21 : A m0 21 p = 0) (hP : PAcK m0 f p lo i xa xc q q) (hxc : xc ≤ 8015) (hg : (A m0 19 n = 0 ∧ mid = i ∧ q = s) ∨ ∃ gx kg : Nat, A m0 19 n = ((gx : Nat) : Int) ∧ A m0 6 i = 19 ∧ RWcK m0 1 26 (XPcK m0 f o 3) kg gx (i + 1) mid xc xd q s) (hxd : xd ≤ 8015) (hs4 : s ≤ 400) (k38 : K mid = 38) (hmT : mid < T) (hC : XCS m0 nm m a cm sc false) (hR : XRS w0 T w lo Q sc) (hq : Q 56 = q) (htot : tot sc + (mid - lo) ≤ 4000 ∧ sc.length ≤ o + 1) (hkd : (kd = 1 ∧ v1 = -1) ∨ (kd = 3 ∧ v1 = -2))
    (hh : ∀ m5 w5 b cm2 Q2 sc2 fs v8, XTF m0 w0 K T nm Nk false [] lo (mid + 1) a b cm cm2 q s Q Q2 sc sc2 m w m5 w5 → HKc m5 fs v8 → (∀ h, h ∈ fs → a ≤ h ∧ h < b) → (Q 46 < Q2 46 ∧ Q 46 < 16000 ∧ w5.2.2.1 45 (Q 46) = -1 ∧ w5.2.2.1 43 (Q 46) = I (Q2 32 : Nat)) → HDG w0 nm fof cvr kd a b cm2 q s (Q 46) Q Q2 sc sc2 m5 w5 fs → PP RR (fc m5 v8) (kpC N (krc_M_behind N (d + 1)) G w5 0 x2 x3 x4 (I (Q 46 : Nat)) (I ((hdS sc).1.length : Nat)))) : PP RR (bnd (jm_Cm_tries N (jrc_Cm_fun N D) m v1 (I (n : Nat))) fc) (kb_M_parts0_19 N (krc_M_behind N (d + 1)) G w 0 x2 x3 x4 1) := by
  have tt4 := c.2.1.1.1
  obtain ⟨e, t, rfl⟩ := PRS_ne hR.1
  have hd0 := PA_bdK _ _ _ _ _ _ _ _ hP
  unfold HDc at hd0
  have hi1 : i ≤ mid ∧ q ≤ s := by
    rcases hg with ⟨-, rfl, rfl⟩ | ⟨gx, kg, -, -, hw⟩
    · exact ⟨Nat.le_refl _, Nat.le_refl _⟩
    · have := (RW_hdK (XP_bdK f o 3) hw).1
      unfold HDc at this
      exact ⟨by omega, by omega⟩
  have hv1 : decide (v1 < 0) = true := by rcases hkd with ⟨-, rfl⟩ | ⟨-, rfl⟩ <;> rfl
  refine pt_beg hR (fun V k16 hV hQV hVJ hVr hV44 hV45 hV41 hVi => ?_)
  rw [show decide ((0 : Int32) = 0) = true from rfl, br_t]
  have q46 : ∀ k, k ≠ 46 → qst Q 46 (Q 46 + 1) k = Q k := fun k hk => qst_no hk
  have X0 : XTF m0 w0 K T nm Nk false [] lo lo a a cm cm q q Q (qst Q 46 (Q 46 + 1)) (e :: t) (e :: t) m w m V := XTF_st hC hq (by decide) (by omega) hV hQV
  refine hd_x c cv hP hxc hC hV (by rw [q46 56 (by decide)]; exact hq) (by omega) hn h18 h21 hv1 (fun m5 w5 b cm2 pj pn sc2 kf hX hab hpn hwd hrw hri hpt => ?_)
  have X1 := XTF_tr X0 hX
  have lk : (hdS (e :: t)).1.length = e.1.length := rfl
  rw [lk] at hh
  have m39 : (qst Q 46 (Q 46 + 1)) 39 = Q 39 := q46 39 (by decide)
  rw [m39] at hpn hpt
  have r46 : ∀ k, (qst (qst Q 46 (Q 46 + 1)) 39 pj) 46 = k ↔ Q 46 + 1 = k := fun k => by rw [qst_no (by decide), qst_at]
  have e46 : (qst (qst Q 46 (Q 46 + 1)) 39 pj) 46 = Q 46 + 1 := by rw [qst_no (by decide), qst_at]
  have e39 : (qst (qst Q 46 (Q 46 + 1)) 39 pj) 39 = pj := qst_at
  have e56 : (qst (qst Q 46 (Q 46 + 1)) 39 pj) 56 = q := by rw [qst_no (by decide), qst_no (by decide)]; exact hq
  have e32 : (qst (qst Q 46 (Q 46 + 1)) 39 pj) 32 = Q 32 := by rw [qst_no (by decide), qst_no (by decide)]
  -- the PATTERN at the end of all
  have pat : ∀ (m6 w7 : MS) (b6 r6 : Nat) (Q6 : Nat → Nat) (sc6 : SCT) (cm6 : Nat) (fs : List Nat) (C : Nat → Int) (P R : Nat → Nat → Int) (J : Nat → Int64) (H : List Nat) (lst : Bool), FNx w0 fof cvr C P R J m6 w7 a b6 q r6 Q Q6 lst [] fs [Q 46] → b + 1 ≤ b6 → pj ≤ Q6 39 → (∀ h, h ∈ fs → h = a + 2 ∨ b < h) → (∀ j, j < b + 1 → m6.2.2.1 23 j = m5.2.2.1 23 j) → (∀ k q, 33 ≤ k → k ≤ 38 → q < pj → w7.2.2.1 k q = w5.2.2.1 k q) → (∀ q, q < pj → w7.2.2.2 34 q = w5.2.2.2 34 q) → HPX nm sc2 H → C a = 19 ∧ ((kd = 1 ∧ C (a + 1) = -1) ∨ (kd = 3 ∧ C (a + 1) = -2)) ∧ PTs C R J H f (a + 3) pn (Onm nm (e :: t)) b (Onm nm sc2) ∧ C b = 8 := fun m6 w7 b6 r6 Q6 sc6 cm6 fs C P R J H lst fi h1 h2 h3 h4 h5 h6 hx => by
    have nf : ∀ j, a ≤ j → j ≠ a + 2 → j < b + 1 → j ∉ fs := fun j _ j1 j2 y => by
      rcases h3 j y with z | z <;> omega
    have c0 := C_of fi (j := a) ⟨Nat.le_refl _, by omega⟩ (nf a (Nat.le_refl _) (by omega) (by omega)) ((h4 a (by omega)).trans hwd.1)
    have c1 := C_of fi (j := a + 1) ⟨by omega, by omega⟩ (nf (a + 1) (by omega) (by omega) (by omega)) ((h4 (a + 1) (by omega)).trans hwd.2.1)
    have c8 := C_of fi (j := b) ⟨by omega, by omega⟩ (nf b (by omega) (by omega) (by omega)) ((h4 b (by omega)).trans hwd.2.2.2)
    refine ⟨c0, ?_, hpt C R J H (fun j j1 j2 => ?_) fi.2.2.1 (fun y y1 y2 => ?_) hx, c8⟩
    · rcases hkd with ⟨z1, rfl⟩ | ⟨z1, rfl⟩
      · exact Or.inl ⟨z1, c1⟩
      · exact Or.inr ⟨z1, c1⟩
    · rw [fi.1 j (by omega) (by omega) (nf j (by omega) (by omega) (by omega))]
      exact congrArg Int32.toInt (h4 j (by omega))
    · have ee : ∀ k, 33 ≤ k → k ≤ 38 → k ≠ 34 → R k y = A w5 k y := fun k k1 k2 k3 => by
        have gk : grp k = 39 := by unfold grp; rw [if_neg (by omega), if_pos ⟨k1, k2⟩]
        rw [fi.2.2.2.1.1 k y (by omega) (by omega) (by omega) k3 (by rw [gk]; decide) (by rw [gk]; exact y1) (by rw [gk]; omega) (fun z => by omega)]
        exact congrArg Int32.toInt (h5 k y k1 k2 y2)
      exact ⟨ee 33 (by decide) (by decide) (by decide), ee 35 (by decide) (by decide) (by decide), ee 36 (by decide) (by decide) (by decide), ee 38 (by decide) (by decide) (by decide), (fi.2.2.2.1.2.2.2 y y1 (by omega)).trans (h6 y y2), fun _ => ee 37 (by decide) (by decide) (by decide)⟩
  refine rd_40 (by omega) rfl (fun V2 hV2 => ?_)
  have X2 : XTF m0 w0 K T nm Nk false [] lo i a (b + 1) cm cm2 q q Q (qst (qst Q 46 (Q 46 + 1)) 39 pj) (e :: t) sc2 m w m5 V2 := W46_rw X1 hV2 (by omega) (Nat.le_refl _)
  have hC5 := X2.2.1
  have hR2 := X2.2.2.1.1
  have b24 : b + 1 ≤ 23990 := hC5.1.2.2.1.2.2
  have V240 : V2.2.2.1 40 (Q 46) = I (pn : Nat) := hV2.2.2.2
  have V245 : V2.2.2.1 45 (Q 46) = -1 := by
    rw [hV2.2.2.1 45 _ (Or.inl (by decide)), hrw 45 (Or.inr (Or.inl ⟨by decide, by decide⟩))]
    exact hV45
  refine gd_w c hR2 (fun k19 => ?_) (fun k19 => ?_)
  · -- no GUARD
    rcases hg with ⟨h19, rfl, rfl⟩ | ⟨gx, kg, h19, h6, hw⟩
    · refine gd_no (XCS_fr hC5) hn h19 ?_
      refine rd_43 c X2 ⟨Nat.le_refl _, by omega⟩ hmT (fun V3 X3 hV3J hV3r hV342 hV343 => ?_)
      refine hh m5 V3 (b + 1) cm2 _ sc2 [a + 2] _ X3 ⟨rfl, ⟨by omega, by omega⟩, fun h' hm => (by cases hm), hwd.2.2.1⟩ (fun h hm => by
        have : h = a + 2 := by simpa using hm
        omega) ⟨by rw [e46]; omega, k16, by rw [hV3r 45 _ (Or.inl (by decide))]; exact V245, hV343⟩ (fun C P R J H lst fl scn fi hx h0 hhk => ⟨fun u u1 u2 => by omega, fun hz hc => ?_⟩)
      have vk : ∀ k y, 33 ≤ k → k ≤ 38 → V3.2.2.1 k y = w5.2.2.1 k y := fun k y k1 k2 => by
        rw [hV3r k y (Or.inl (by omega)), hV2.2.2.1 k y (Or.inl (by omega))]
      obtain ⟨p0, p1, p2, p3⟩ := pat m5 V3 (b + 1) q _ sc2 cm2 [a + 2] C P R J H lst fi (Nat.le_refl _) (by rw [e39]; exact Nat.le_refl _) (fun h hm => Or.inl (by simpa using hm)) (fun _ _ => rfl) (fun k y k1 k2 _ => vk k y k1 k2) (fun y _ => by rw [hV3J, hV2.2.1]) hx.1
      have R40 := FNx_R fi (j := 40) (k := Q 46) (by omega) ⟨Nat.le_refl _, by rw [e46]; omega⟩
      have R42 := FNx_R fi (j := 42) (k := Q 46) (by omega) ⟨Nat.le_refl _, by rw [e46]; omega⟩
      refine zr_pn (by omega) (by omega) p0 p1 (hhk _ List.mem_cons_self) p2 hf p3 ?_ ?_ hz hc
      · rw [R40]
        show (V3.2.2.1 40 (Q 46)).toInt = _
        rw [hV3r 40 _ (Or.inl (by decide)), V240]
        exact I_ti (by omega) (by have := hX.2.2.1.1.1.2.2.2.2.2.2; rw [e39] at this; omega)
      · rw [R42]
        show (V3.2.2.1 42 (Q 46)).toInt = _
        rw [hV342]; rfl
    · exact absurd (kA c (by omega) h6) k19
  · -- a GUARD
    rcases hg with ⟨h19, rfl, rfl⟩ | ⟨gx, kg, h19, h6, hw⟩
    · exact absurd (k38.symm.trans k19) (by decide)
    · have hw1 := (RW_hdK (XP_bdK f o 3) hw).1
      unfold HDc at hw1
      cases d with
      | zero => exact pp_nr
      | succ d =>
      have XA : XTF m0 w0 K T nm Nk false [] lo (i + 1) a (b + 1) cm cm2 q q Q (qst (qst Q 46 (Q 46 + 1)) 39 pj) (e :: t) sc2 m w m5 (adv V2 i) := XTF_ad X2 (by omega) (by rw [k19]; decide)
      refine gd_all c IE hw hxd hs4 ⟨by rw [k38]; exact ⟨rfl, by decide, by decide, by decide⟩, by rw [k38]; decide, by omega⟩ hC5 XA.2.2.1.1 e56 (by have := XA.2.2.2.1; have := XTF_len XA; omega) hn h19 (fun m6 w6 b6 cm6 Q6 sc6 hG same hab6 hwd6 hcd => ?_)
      have X4 := XTF_tr XA hG
      refine rd_43 c X4 ⟨Nat.le_refl _, by omega⟩ hmT (fun V3 X3 hV3J hV3r hV342 hV343 => ?_)
      rw [e32] at hV342
      have le6 := hG.2.2.2.2.2.2.1.2.1
      have l46 := le6 46 (by decide)
      have l39 := le6 39 (by decide)
      rw [e46] at l46
      rw [e39] at l39
      have b64 : b6 ≤ 23990 := hG.2.1.1.2.2.1.2.2
      have mk6 : ∀ j, j < b + 1 → m6.2.2.1 23 j = m5.2.2.1 23 j := hG.2.2.2.2.2.1.2.2.1
      have rk6 : ∀ k y, grp k ≠ 0 → y < (qst (qst Q 46 (Q 46 + 1)) 39 pj) (grp k) → w6.2.2.1 k y = V2.2.2.1 k y := fun k y k1 k2 => hG.2.2.2.2.2.2.1.1.2.1 k y k1 k2
      have six : ∀ k, 40 ≤ k → k ≤ 45 → grp k = 46 := fun k k1 k2 => by unfold grp; rw [if_neg (by omega), if_neg (by omega), if_pos ⟨k1, k2⟩]
      have V3o : ∀ k, 40 ≤ k → k ≤ 45 → k ≠ 42 → k ≠ 43 → V3.2.2.1 k (Q 46) = V2.2.2.1 k (Q 46) := fun k k1 k2 k3 k4 => by
        rw [hV3r k _ (Or.inl ⟨k3, k4⟩)]
        exact rk6 k _ (by rw [six k k1 k2]; decide) (by rw [six k k1 k2, e46]; omega)
      refine hh m6 V3 b6 cm6 Q6 sc6 [b + 1 + 2, a + 2] _ X3 ⟨rfl, ⟨by omega, by omega⟩, fun h' hm => by
        have : h' = a + 2 := by simpa using hm
        omega, ?_⟩ (fun h hm => by
        have : h = b + 1 + 2 ∨ h = a + 2 := by simpa using hm
        omega) ⟨by omega, k16, by rw [V3o 45 (by decide) (by decide) (by decide) (by decide)]; exact V245, hV343⟩ (fun C P R J H lst fl scn fi hx h0 hhk => ?_)
      · rw [hwd6.2.2]
        exact ⟨rfl, ⟨by omega, by omega⟩, fun h' hm => (by cases hm), by rw [mk6 (a + 2) (by omega)]; exact hwd.2.2.1⟩
      · have sO : Onm nm sc6 = Onm nm sc2 := by unfold Onm; rw [same]
        have hpx : HPX nm sc2 H := by
          obtain ⟨W, g5, -⟩ := hG.2.2.2.2.1
          exact HPX_mo g5.1 hx.1
        obtain ⟨p0, p1, p2, p3⟩ := pat m6 V3 b6 s Q6 sc6 cm6 [b + 1 + 2, a + 2] C P R J H lst fi (by omega) l39 (fun h hm => by
          have : h = b + 1 + 2 ∨ h = a + 2 := by simpa using hm
          omega) (fun j hj => mk6 j (by omega)) (fun k y k1 k2 y2 => by
          have gk : grp k = 39 := by unfold grp; rw [if_neg (by omega), if_pos ⟨k1, k2⟩]
          rw [hV3r k y (Or.inl (by omega)), rk6 k y (by rw [gk]; decide) (by rw [gk, e39]; exact y2), hV2.2.2.1 k y (Or.inl (by omega))]) (fun y y2 => by
          rw [hV3J, hG.2.2.2.2.2.2.1.1.2.2 34 y (Or.inr (by rw [e39]; exact y2))]
          show V2.2.2.2 34 y = _
          rw [hV2.2.1]) hpx
        have nf : ∀ j, b < j → j ≠ b + 1 + 2 → j ∉ [b + 1 + 2, a + 2] := fun j j1 j2 y => by
          have : j = b + 1 + 2 ∨ j = a + 2 := by simpa using y
          omega
        have c21 := C_of fi (j := b + 1) ⟨by omega, by omega⟩ (nf _ (by omega) (by omega)) hwd6.1
        have cl := C_of fi (j := b + 1 + 1) ⟨by omega, by omega⟩ (nf _ (by omega) (by omega)) hwd6.2.1
        have lenE := Onm_sub (nm := nm) (m := m) (m2 := m5) (sc := e :: t) (sc2 := sc2) (by obtain ⟨W, g5, -⟩ := X2.2.2.2.2.1; exact (g5.2 rfl).2) hC.1.2.1.2.2.1 hC5.1.2.1.2.2.1 hC5.1.2.1.2.2.2.1
        have R40 := FNx_R fi (j := 40) (k := Q 46) (by omega) ⟨Nat.le_refl _, by omega⟩
        have R42 := FNx_R fi (j := 42) (k := Q 46) (by omega) ⟨Nat.le_refl _, by omega⟩
        have fd : FNd w0 fof cvr C P R J m6 w6 (b + 1 + 3) b6 q s (qst (qst Q 46 (Q 46 + 1)) 39 pj) Q6 lst [] := by
          refine FNx_sub fi ⟨by omega, Nat.le_refl _⟩ ⟨Nat.le_refl _, Nat.le_refl _⟩ X2.2.2.2.2.2.2.1.2.1 QLE_rf (fun _ _ _ => rfl) (fun _ _ _ _ _ _ => rfl) ⟨fun k y k1 k2 k3 k4 k5 => hV3r k y ?_, fun y _ _ => by rw [hV3J]⟩ (fun y y1 y2 => ?_) (fun j hj => Or.inl ?_) (fun j hj => Or.inl ?_)
          · by_cases z : k = 42 ∨ k = 43
            · have : (qst (qst Q 46 (Q 46 + 1)) 39 pj) 46 ≤ y := by rcases z with rfl | rfl <;> exact k4
              rw [e46] at this
              exact Or.inr (by omega)
            · exact Or.inl (by omega)
          · have e30 : A V3 30 y = A w6 30 y := congrArg Int32.toInt (hV3r 30 y (Or.inl (by decide)))
            rw [e30]
          · have : j = b + 1 + 2 ∨ j = a + 2 := by simpa using hj
            omega
          · have : j = Q 46 := by simpa using hj
            rw [e46]; omega
        obtain ⟨g1, g2⟩ := hcd C P R J H lst fd hx
        refine ⟨g1, fun hz hc => ?_⟩
        have r32 := g2 kd (Q 46) scn hc
        rw [e32] at r32
        refine zr_pg (g := Q 32) (fl := fl) (by omega) (by omega) p0 p1 (hhk _ (by simp)) p2 hf p3 ?_ ?_ c21 ?_ (hhk _ (by simp)) h0 hz r32
        · rw [R40]
          show (V3.2.2.1 40 (Q 46)).toInt = _
          rw [V3o 40 (by decide) (by decide) (by decide) (by decide), V240]
          exact I_ti (by omega) (by have := hX.2.2.1.1.1.2.2.2.2.2.2; rw [e39] at this; omega)
        · rw [R42]
          show (V3.2.2.1 42 (Q 46)).toInt = _
          rw [hV342]
          exact I_ti (by omega) (by have := (XRS_q hR).2; omega)
        · rw [cl]
          exact lenE
end
