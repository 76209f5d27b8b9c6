/-! a CLAUSE, both: behind its PATTERNS -/
set_option maxRecDepth 100000
/-- what the PATTERNS of a CLAUSE do -/
def CHDs (w0 : MS) (nm : Nat → Nat) (kk a b k0 pi pj : Nat) (sc sc2 : SCT) (mP wP : MS) (fs : List Nat) : Prop := ∀ (C : Nat → Int) (R : Nat → Nat → Int) (J : Nat → Int64) (H : List Nat) (fl : Nat), (∀ j, a ≤ j → j < b → j ∉ fs → C j = A mP 23 j) → GRS R w0 → (∀ k q, 33 ≤ k → k ≤ 38 → k ≠ 34 → pi ≤ q → q < pj → R k q = A wP k q) → (∀ q, pi ≤ q → q < pj → J q = wP.2.2.2 34 q) → (0 < kk → R 40 k0 = A wP 40 k0) → R 41 k0 = ((kk : Nat) : Int) → HPX nm sc2 H → (∀ h, h ∈ fs → C h = ((fl : Nat) : Int)) → (kk = 0 ∧ b = a ∧ Onm nm sc2 = Onm nm sc) ∨ (C a = 19 ∧ C (a + 2) = ((fl : Nat) : Int) ∧ (0 < kk ∧ kk ≤ 6) ∧ C (a + 1) = ((kk : Nat) : Int) ∧ ∃ e2, PTr C R J H 230 kk (a + 3) (R 40 k0) (Onm nm sc) e2 (Onm nm sc2) ∧ C e2 = 8 ∧ b = e2 + 1)
/-- what a CLAUSE does -/
def CLM (w0 : MS) (nm : Nat → Nat) (fof cvr : Int → Int → Int) (a b cm2 q r k0 : Nat) (Q Q2 : Nat → Nat) (sc2 : SCT) (m2 w2 : MS) : Prop := ∀ (C : Nat → Int) (P R : Nat → Nat → Int) (J : Nat → Int64) (H : List Nat) (lst : Bool), FNx w0 fof cvr C P R J m2 w2 a b q r Q Q2 lst [] [] [k0] → HNX nm sc2 cm2 H → (∀ u, q ≤ u → u < r → FUX C P R J u) ∧ ((∃ f, ZRs C R J (CRs C R J f) 0 0 H [] f b (R 45 k0)) → ∃ f, ZRs C R J (CRs C R J f) 0 0 H [] f a ((k0 : Nat) : Int))
/-- a CLAUSE -/
def CLZs (m0 w0 : MS) (K : Nat → Nat) (T : Nat) (nm Nk : Nat → Nat) (fof cvr : Int → Int → Int) (kk lo hi a cm q r : Nat) (Q : Nat → Nat) (sc : SCT) (m w m2 : MS) (_ : Unit) (w2 : MS) (r9 : Int32) : Prop := ∃ (b cm2 : Nat) (Q2 : Nat → Nat) (e2 : List Nat × List Nat × Nat) (t2 : SCT), r9 = I (Q 46 : Nat) ∧ (lo < hi ∧ a < b ∧ cm ≤ cm2 ∧ q ≤ r) ∧ XCS m0 nm m2 b cm2 (([], e2.2) :: t2) false ∧ (XRS w0 T w2 hi Q2 (e2 :: t2) ∧ Q2 56 = r) ∧ tot t2 + e2.1.length ≤ tot sc + (hi - lo) ∧ (∃ W, HDo Nk K W lo hi sc (e2 :: t2) ∧ m2.2.2.1 42 = wup (m.2.2.1 42) K W lo hi) ∧ XFC m m2 a q r (sc.length - 1) ∧ XRF w w2 Q Q2 ∧ (t2.length + 1 = sc.length ∧ BDs sc.tail t2) ∧ (Q 46 < Q2 46 ∧ Q 46 < 16000 ∧ w2.2.2.1 45 (Q 46) = -1 ∧ w2.2.2.1 41 (Q 46) = I (kk : Nat)) ∧ e2.1.length ≤ cm2 ∧ CLM w0 nm fof cvr a b cm2 q r (Q 46) Q Q2 (e2 :: t2) m2 w2
section
variable {α β : Type} {m0 w0 m w m2 w2 m3 w3 v u mP wP V Z : MS} {K nm Nk W W2 : Nat → Nat} {N T D d o o2 a b b0 c cm cmP cm2 q r s lo mid hi i j f n k k0 kk p tk xa xb xc xd xe gx kg kb mb M kf : Nat} {Q Qp Q2 Q3 : Nat → Nat} {sc scP sc2 sc3 t t2 : SCT} {e e2 : List Nat × List Nat × Nat} {g lst : Bool} {L hs ps fs : List Nat} {fof cvr : Int → Int → Int} {rt v1 v2 v3 v4 v5 line : Int32} {G : MS → Int32 → Int32 → Int32 → Option (MS × Int32)} {C : Nat → Int} {P R : Nat → Nat → Int} {J : Nat → Int64}
theorem FNx_l (h : FNx w0 fof cvr C P R J m w a b q r Q Q2 lst [] hs ps) : FNx w0 fof cvr C P R J m w a b q r Q Q2 g [] hs ps := by
  obtain ⟨h1, h2, h3, ⟨h4, h5, h6, h7⟩, h8⟩ := h
  refine ⟨h1, h2, h3, ⟨h4, h5, fun n n1 n2 => ?_, h7⟩, h8⟩
  rw [h6 n n1 n2, if_neg (fun y => by cases y.2), if_neg (fun y => by cases y.2)]
/-- behind a GUARD of a CLAUSE, here -/
theorem rd_43c {A' : Option (MS × α)} {RR : MS → α → MS → Int32 → Prop} {F : MS → Option (MS × Int32)} (c : CTZ m0 w0 K T nm Nk) (hX : XTF m0 w0 K T nm Nk false L lo mid a b cm cm2 q r Q Q2 sc sc2 m w m2 w2) (hk : Q 46 ≤ k ∧ k ≤ 16000) (hmT : mid < T) (h : ∀ V, XTF m0 w0 K T nm Nk false L lo (mid + 1) a b cm cm2 q r Q Q2 sc sc2 m w m2 V → V.2.2.2 = w2.2.2.2 → (∀ i n, (i ≠ 42 ∧ i ≠ 43) ∨ n ≠ k → V.2.2.1 i n = w2.2.2.1 i n) → V.2.2.1 42 k = rt → V.2.2.1 43 k = I (Q2 32 : Nat) → PP RR A' (F V)) : PP RR A' (ck (inb (I (k : Nat)) (ln 42)) (lt (upA w2 42 (upd (w2.2.2.1 42) k rt)) (fun w3 => bnd (km_M_needSign N w3 10) (fun u4 _ => ck (inb (I (k : Nat)) (ln 43)) (lt (upA u4 43 (upd (u4.2.2.1 43) k (u4.1 32))) (fun w5 => F w5)))))) := by
  refine r_ck (fun _ => r_lt ?_)
  have h1 : W46 w2 (upA w2 42 (upd (w2.2.2.1 42) k rt)) 42 k rt := w46_of
  generalize upA w2 42 (upd (w2.2.2.1 42) k rt) = V1 at h1
  have X1 := W46_rw hX h1 (by omega) hk.1
  refine nd_s c X1.2.2.1.1 (k := 38) (s' := 10) (by decide) rfl (fun k38 => ?_)
  have X2 := XTF_ad X1 hmT (by rw [k38]; decide)
  have e32 : (adv V1 mid).1 32 = I (Q2 32 : Nat) := (XRS_q X2.2.2.1.1).1
  rw [e32]
  refine r_ck (fun _ => r_lt ?_)
  have h2 : W46 (adv V1 mid) (upA (adv V1 mid) 43 (upd ((adv V1 mid).2.2.1 43) k (I (Q2 32 : Nat)))) 43 k (I (Q2 32 : Nat)) := w46_of
  generalize upA (adv V1 mid) 43 (upd ((adv V1 mid).2.2.1 43) k (I (Q2 32 : Nat))) = V at h2
  have X3 := W46_rw X2 h2 (by omega) hk.1
  refine h V X3 ?_ (fun i n hin => ?_) ?_ h2.2.2.2
  · rw [h2.2.1]
    show V1.2.2.2 = _
    rw [h1.2.1]
  · rw [h2.2.2.1 i n (by omega)]
    show V1.2.2.1 i n = _
    rw [h1.2.2.1 i n (by omega)]
  · rw [h2.2.2.1 42 k (Or.inl (by decide))]
    show V1.2.2.1 42 k = _
    exact h1.2.2.2
set_option maxHeartbeats 1000000 in
theorem cl_rest (c : CTZ m0 w0 K T nm Nk) (IE : HXE N m0 w0 K T nm Nk fof cvr f) (hC0 : XCS m0 nm m a cm (e :: t) false) (he : e.1 = []) (hCp : XCS m0 nm mP b cmP scP false) (hRp : XRS w0 T wP p Qp scP) (hqp : Qp 56 = q) (hst : lo ≤ p ∧ a ≤ b ∧ cm ≤ cmP) (htp : tot scP ≤ tot (e :: t) + (p - lo)) (hho : ∃ W, HDo Nk K W lo p (e :: t) scP ∧ mP.2.2.1 42 = wup (m.2.2.1 42) K W lo p) (hxc : XFC m mP a q q t.length) (hxr : XRF w wP Q Qp) (hbd : scP.length = t.length + 1 ∧ BDs t scP.tail) (hk0 : Q 46 < 16000 ∧ Qp 46 = Q 46 + 1 ∧ wP.2.2.1 45 (Q 46) = -1 ∧ wP.2.2.1 44 (Q 46) = I (tk : Nat) ∧ wP.2.2.1 41 (Q 46) = I (kk : Nat)) (hch : CHDs w0 nm kk a b (Q 46) (Q 39) (Qp 39) (e :: t) scP mP wP fs) (hfs : HKc mP fs v4) (hfr : ∀ h, h ∈ fs → a ≤ h ∧ h < b) (k21 : K p = 21) (hn : n ≤ 8015) (hg : (A m0 19 n = 0 ∧ mid = p + 1 ∧ q = s) ∨ ∃ gx kg : Nat, A m0 19 n = ((gx : Nat) : Int) ∧ A m0 6 (p + 1) = 19 ∧ RWcK m0 1 26 (XPcK m0 f o 3) kg gx (p + 2) mid xc xd q s) (hxd : xd ≤ 8015) (k38 : K mid = 38) (h20 : A m0 20 n = ((mb : Nat) : Int)) (hB : RWcK m0 1 26 (XPcK m0 f o2 3) kb mb (mid + 1) hi xd xe s r) (hxe : xe ≤ 8015) (hr4 : r ≤ 400) (hcl : NEC (K hi) ∧ K hi ≠ 26 ∧ hi ≤ T) (htot : tot (e :: t) + (hi - lo) ≤ 4000 ∧ t.length ≤ o ∧ t.length ≤ o2) (hln : line.toInt = A w0 8 tk) (htk : tk ≤ 4002) (hkk : kk ≤ 6) : PP (CLZs m0 w0 K T nm Nk fof cvr kk lo hi a cm q r Q (e :: t) m w) (bnd (jb_Cm_tries_111 N (jrc_Cm_fun N D) (jg_Cm_tries N (jrc_Cm_fun N D) kf) mP (I (n : Nat)) (m.1 706) v4) (fun u2 r2 => bnd (jm_Co_put N u2 24) (fun u4 _ => bnd (jm_Co_put N u4 (I (kk : Nat))) (fun u7 _ => bnd (jm_Co_put N u7 line) (fun u10 _ => ck (inb (I (n : Nat)) 8016) (bnd ((jrc_Cm_fun N (D + 1)).2.2.2.1 u10 (u10.2.2.1 20 n) 1) (fun u17 _ => bnd (jm_Co_put N u17 35) (fun u19 _ => lt (upI u19 706 (m.1 706)) (fun w21 => bnd (hm_Co_arrive N w21 r2) (fun u23 _ => some (u23, ()))))))))))) (kb_M_clause_183 N (krc_M_behind N (d + 1)) G wP (I (Q 46 : Nat))) := by
  have tt4 := c.2.1.1.1
  have m706 : m.1 706 = I (tot (e :: t) : Nat) := hC0.1.2.1.2.2.1
  have hs1 : mid ≤ hi ∧ p + 1 ≤ mid ∧ xd ≤ 8015 ∧ q ≤ s ∧ s ≤ r := by
    have hB1 := (RW_hdK (XP_bdK f o2 3) hB).1
    unfold HDc at hB1
    rcases hg with ⟨-, rfl, rfl⟩ | ⟨gx, kg, -, -, hw⟩
    · exact ⟨by omega, Nat.le_refl _, hxd, Nat.le_refl _, by omega⟩
    · have := (RW_hdK (XP_bdK f o 3) hw).1
      unfold HDc at this
      exact ⟨by omega, by omega, hxd, by omega, by omega⟩
  have hB1 := (RW_hdK (XP_bdK f o2 3) hB).1
  unfold HDc at hB1
  -- marks, with the CLAUSE's own row open
  have eQ : qst (qst Qp 46 (Q 46)) 46 (Qp 46) = Qp := funext (fun j => by
    by_cases y : j = 46
    · rw [y, qst_at]
    · rw [qst_no y, qst_no y])
  have eQ46 : (qst Qp 46 (Q 46)) 46 = Q 46 := qst_at
  have eQo : ∀ k, k ≠ 46 → (qst Qp 46 (Q 46)) k = Qp k := fun k hk => qst_no hk
  have leQ : QLE Q (qst Qp 46 (Q 46)) := fun k hk => by
    by_cases y : k = 46
    · rw [y, eQ46]; exact Nat.le_refl _
    · rw [eQo k y]; exact hxr.2.1 k hk
  have X0 : XTF m0 w0 K T nm Nk false [] p p b b cmP cmP q q (qst Qp 46 (Q 46)) Qp scP scP mP wP mP wP := by
    have := XTF_st (K := K) (Nk := Nk) (q := q) (Q := qst Qp 46 (Q 46)) (j := 46) (i := Qp 46) (w := wP) (v := wP) hCp (by rw [eQo 56 (by decide)]; exact hqp) (by decide) (by rw [eQ46]; omega) (by rw [eQ]; exact hRp) QRR_rf
    rw [eQ] at this
    exact this
  unfold kb_M_clause_183
  refine nd_s c hRp (k := 21) (s' := 1) (by decide) rfl (fun _ => ?_)
  have X1 := XTF_ad X0 (show p < T by omega) (by rw [k21]; decide)
  have hmT : mid < T := by omega
  rw [i_nt2 (p := Q 46) (by omega)]
  -- behind the arrow
  have rest : ∀ (m6 V : MS) (b6 cm6 : Nat) (Q6 : Nat → Nat) (sc6 : SCT) (fs6 : List Nat) (v8 : Int32), XTF m0 w0 K T nm Nk false [] p (mid + 1) b b6 cmP cm6 q s (qst Qp 46 (Q 46)) Q6 scP sc6 mP wP m6 V → HKc m6 fs6 v8 → (∀ h, h ∈ fs6 → a ≤ h ∧ h < b6) → (∀ h, h ∈ fs → h ∈ fs6) → (∀ h, h ∈ fs6 → h ∈ fs ∨ b ≤ h) → V.2.2.1 43 (Q 46) = I (Q6 32 : Nat) → (∀ k, k = 40 ∨ k = 41 ∨ k = 44 ∨ k = 45 → V.2.2.1 k (Q 46) = wP.2.2.1 k (Q 46)) → Q 46 < Q6 46 → (∀ (C : Nat → Int) (P R : Nat → Nat → Int) (J : Nat → Int64) (H : List Nat) (lst : Bool) (fl : Nat), FNx w0 fof cvr C P R J m6 V b b6 q s (qst Qp 46 (Q 46)) Q6 lst [] fs6 [Q 46] → HNX nm sc6 cm6 H → 0 < fl → (∀ h, h ∈ fs6 → C h = ((fl : Nat) : Int)) → (∀ u, q ≤ u → u < s → FUX C P R J u) ∧ ((∃ f, ZRs C R J (CRs C R J f) 0 0 H [] f fl (R 45 (Q 46))) → (∃ f, CHs C R (CRs C R J f) 0 b6 (Q 46) H (Onm nm sc6)) → ((R 42 (Q 46) = -1 ∧ ∃ f, CHs C R (CRs C R J f) 0 b (Q 46) H (Onm nm scP)) ∨ ∃ g : Nat, R 42 (Q 46) = ((g : Nat) : Int) ∧ C b = 21 ∧ C (b + 1) = (((Onm nm scP).length : Nat) : Int) ∧ C (b + 2) = ((fl : Nat) : Int) ∧ CRe C R J (some (0, Q 46, 0)) (b + 3) g H (Onm nm scP)))) → PP (CLZs m0 w0 K T nm Nk fof cvr kk lo hi a cm q r Q (e :: t) m w) (bnd (jm_Co_put N m6 24) (fun u4 _ => bnd (jm_Co_put N u4 (I (kk : Nat))) (fun u7 _ => bnd (jm_Co_put N u7 line) (fun u10 _ => ck (inb (I (n : Nat)) 8016) (bnd ((jrc_Cm_fun N (D + 1)).2.2.2.1 u10 (u10.2.2.1 20 n) 1) (fun u17 _ => bnd (jm_Co_put N u17 35) (fun u19 _ => lt (upI u19 706 (m.1 706)) (fun w21 => bnd (hm_Co_arrive N w21 v8) (fun u23 _ => some (u23, ())))))))))) (bnd ((krc_M_behind N (d + 1)).2.2.2.2.1 V) (fun u6 r6 => bnd (fm_M_node N u6 29 (u6.1 69)) (fun u7 _ => bnd (fr_M_last N u7 r6) (fun u8 _ => some (u8, I (Q 46 : Nat)))))) := fun m6 V b6 cm6 Q6 sc6 fs6 v8 X6 hk6 hf6 hsub hsub2 V43 Vk0 q46 hGM => by
    clear hg
    have hC6 := X6.2.1
    have hR6 := X6.2.2.1.1
    have p6 : b6 ≤ 23990 := hC6.1.2.2.1.2.2
    have bb6 := X6.1
    have tt6 := X6.2.2.2.1
    have ln6 := XTF_len X6
    have le6 := X6.2.2.2.2.2.2.1.2.1
    refine l_put hC6.1.2.2.1.1 hC6.1.2.2.1.2.2 (fun ha1 => ?_)
    have c1 := XCS_put (x := 24) hC6 ha1
    refine l_put c1.1.2.2.1.1 c1.1.2.2.1.2.2 (fun ha2 => ?_)
    have c2 := XCS_put (x := I (kk : Nat)) c1 ha2
    refine l_put c2.1.2.2.1.1 c2.1.2.2.1.2.2 (fun ha3 => ?_)
    have c3 := XCS_put (x := line) c2 ha3
    have em : ptc (ptc (ptc m6 b6 24) (b6 + 1) (I (kk : Nat))) (b6 + 1 + 1) line = ptcs m6 b6 [24, I (kk : Nat), line] := rfl
    rw [em] at c3 ⊢
    have c3' : XCS m0 nm (ptcs m6 b6 [24, I (kk : Nat), line]) (b6 + 3) cm6 sc6 false := c3
    refine l_ck (fun _ => ?_)
    rw [tre (XCS_fr c3) (by decide) h20]
    refine pp_bb (pp_mo (x_body (o := o2) (k := kb) (lst := true) (d := d + 1) c IE hB hxe hr4 hcl c3' hR6 X6.2.2.1.2 (by omega)) (fun m7 z w7 rt hz => ?_))
    obtain ⟨b7, cm7, Q7, sc7, rn, f2, L2, rfl, z2, z3, z4, z5, z6⟩ := hz
    obtain ⟨zF, zC⟩ := XTF_of z3
    have hC7 := zF.2.1
    have hR7 := zF.2.2.1.1
    have bb7 := zF.1
    have tt7 := zF.2.2.2.1
    have ln7 := XTF_len zF
    have le7 := zF.2.2.2.2.2.2.1.2.1
    have B46 := le7 46 (by decide)
    obtain ⟨q1, q2⟩ := XRS_q hR7
    have pT : hi ≤ T := hcl.2.2
    refine l_put hC7.1.2.2.1.1 hC7.1.2.2.1.2.2 (fun ha4 => ?_)
    have c4 := XCS_put (x := 35) hC7 ha4
    have em2 : ptc m7 b7 35 = ptcs m7 b7 [35] := rfl
    rw [em2] at c4 ⊢
    rw [hR7.1.2.1.1]
    refine r_nod q1 q2 rfl (nsh (by omega)) (fun h16 => ?_)
    have d0 : NOD w7 (nwD w7 (Q7 32) 29 (I (hi : Nat))) (Q7 32) := NOD_0 q1
    obtain ⟨d1, -⟩ := nwD_at (w := w7) (i := Q7 32) (k := 29) (t := I (hi : Nat))
    have d9 : (nwD w7 (Q7 32) 29 (I (hi : Nat))).1 69 = I (hi : Nat) := by rw [nwD_i (by decide)]; exact hR7.1.2.1.1
    generalize nwD w7 (Q7 32) 29 (I (hi : Nat)) = U at d0 d1 d9
    have X8 := XTF_nod zF d0 d9 h16
    -- what stands last
    have rtU : RTd U (Q6 32) f2 false (Q7 32) ((rn : Nat) : Int) L2 := (RT_fr (w := w7) (v := U) f2).2 _ rn L2 (fun n _ h2 => ⟨congrArg Int32.toInt (d0.2.2.1 23 n (Or.inr (Or.inr (by omega)))), congrArg Int32.toInt (d0.2.2.1 28 n (Or.inr (Or.inr (by omega))))⟩) (fun n _ h2 => congrArg Int32.toInt (d0.2.2.1 29 n (Or.inr (Or.inr (by omega))))) z5
    refine l_lt ?_
    refine r_bnd (pk_mo (last_p (N := N) (by omega) rtU) (fun Y _ hY => ?_))
    obtain ⟨y1, y2, y3, y4⟩ := hY
    -- there: names are forgotten, hooks arrive
    obtain ⟨e7, t7, rfl⟩ := PRS_ne hR7.1
    have cc : XCS m0 nm (upI (ptcs m7 b7 [35]) 706 (m.1 706)) (b7 + 1) cm7 (([], e7.2) :: t7) false := by
      obtain ⟨⟨p1, p2, p3, p4, p5, p6, p7⟩, p8⟩ := c4
      obtain ⟨g1, g2, g3⟩ := p2.2.2.2.2
      have tb : tot t7 = tot (e :: t) := by
        obtain ⟨W6, a6, -⟩ := X6.2.2.2.2.1
        obtain ⟨W7, a7, -⟩ := zF.2.2.2.2.1
        have n6 := (a6.2 rfl).2
        have n7 := (a7.2 rfl).2
        have et : tot (e :: t) = tot t := by show tot t + e.1.length = _; rw [he]; rfl
        rw [et]
        cases scP with
        | nil => exact absurd hbd.1 (by show ¬ (0 = t.length + 1); omega)
        | cons eP tP =>
          cases sc6 with
          | nil => exact n6.elim
          | cons e6 t6 =>
            rw [(BDs_len n7.2.1).2, (BDs_len n6.2.1).2]
            exact (BDs_len hbd.2).2
      have te : tot (([], e7.2) :: t7) = tot t7 := rfl
      refine ⟨⟨⟨fun k hk => by rw [upI_ne (by omega)]; exact p1.1 k hk, p1.2⟩, ⟨by rw [upI_ne (by decide)]; exact p2.1, p2.2.1, by rw [upI_at, te, tb]; exact m706, by rw [te]; have := p2.2.2.2.1; have et : tot (e7 :: t7) = tot t7 + e7.1.length := rfl; omega, ⟨g1, fun k x hk => (by cases hk), CNl_fr g3 rfl (fun _ _ => rfl)⟩⟩, ⟨by rw [upI_ne (by decide)]; exact p3.1, p3.2⟩, by rw [upI_ne (by decide)]; exact p4, p5, p6, Nat.zero_le _⟩, by rw [upI_ne (by decide)]; exact p8⟩
    have wd4 : ∀ j, j < b7 → (upI (ptcs m7 b7 [35]) 706 (m.1 706)).2.2.1 23 j = m7.2.2.1 23 j := fun j hj => ptcs_o (Or.inl hj)
    have wd35 : (upI (ptcs m7 b7 [35]) 706 (m.1 706)).2.2.1 23 b7 = 35 := ptcs_at (l := [35]) (k := 0) rfl
    have wr4 : ∀ k, k ≠ 23 → (upI (ptcs m7 b7 [35]) 706 (m.1 706)).2.2.1 k = m7.2.2.1 k := fun k hk => ptcs_r hk
    have wi4 : ∀ k, k ≠ 441 → k ≠ 706 → (upI (ptcs m7 b7 [35]) 706 (m.1 706)).1 k = m7.1 k := fun k h1 h2 => by rw [upI_ne h2, ptcs_i h1]
    generalize upI (ptcs m7 b7 [35]) 706 (m.1 706) = M4 at cc wd4 wd35 wr4 wi4
    have m7b6 : ∀ j, j < b6 → m7.2.2.1 23 j = m6.2.2.1 23 j := fun j hj => by
      rw [zF.2.2.2.2.2.1.2.2.1 j (by omega), ptcs_o (Or.inl hj)]
    refine arr_n cc (HKc_fr hk6 (fun j hj => by rw [wd4 j (by have := hf6 j hj; omega), m7b6 j (hf6 j hj).2])) (fun Z hZ hZC => ?_)
    obtain ⟨g1, g2, g3, g4, g5⟩ := hZ
    have zo : ∀ j, j < b7 → j ∉ fs6 → Z.2.2.1 23 j = m7.2.2.1 23 j := fun j hj hn => (g4 j hn).trans (wd4 j hj)
    have z35 : Z.2.2.1 23 b7 = 35 := (g4 b7 (fun y => by have := hf6 b7 y; omega)).trans wd35
    have zr : ∀ k, k ≠ 23 → Z.2.2.1 k = m7.2.2.1 k := fun k hk => (g2 k hk).trans (wr4 k hk)
    have zi : ∀ k, k ≠ 441 → k ≠ 706 → Z.1 k = m7.1 k := fun k h1 h2 => by rw [g1]; exact wi4 k h1 h2
    have b724 : b7 + 1 ≤ 23990 := hZC.1.2.2.1.2.2
    -- here
    have hXY : XRS w0 T Y hi (qst Q7 32 (Q7 32 + 1)) (e7 :: t7) := ⟨PRS_x X8.2.2.1.1.1 (fun _ _ => by rw [y1]) (fun k hk => funext (fun n => y3 k n (by omega))) (by rw [y1]; exact d9), fun k hk => by rw [y1]; exact X8.2.2.1.1.2 k hk⟩
    have L2r := zF.2.2.2.2.2.2.2.2
    have Yr : ∀ k n, grp k ≠ 0 → n < Q7 (grp k) → (k ≠ 30 ∨ n ∉ L2) → Y.2.2.1 k n = w7.2.2.1 k n := fun k n hg hn' hk => by
      have e1 : Y.2.2.1 k n = U.2.2.1 k n := by
        by_cases y : k = 30
        · subst y
          rw [y4 n, if_neg (hk.resolve_left (fun z => z rfl))]
        · exact y3 k n y
      rw [e1, d0.2.2.1 k n (by
        by_cases y : grp k = 32
        · rw [y] at hn'; exact Or.inr (Or.inr (by omega))
        · by_cases yk : k < 23
          · exact Or.inl yk
          · by_cases y31 : 31 < k
            · exact Or.inr (Or.inl y31)
            · exact absurd (by unfold grp; rw [if_pos (by omega)]) y)]
    have YQ : QRR Q6 V Y := by
      refine QRR_tr (Q2 := Q6) (v := U) X8.2.2.2.2.2.2.1.1 ⟨fun k a1 _ _ => funext (fun n => y3 k n (fun z => by rw [z] at a1; exact absurd a1 (by decide))), fun k n a1 a2 => ?_, fun k n _ => by rw [y2]⟩ QLE_rf
      by_cases y : k = 30
      · subst y
        have a2 : n < Q6 32 := a2
        rw [y4 n, if_neg (fun q => by have := L2r n q; omega)]
      · exact y3 k n y
    have leF : QLE Q6 (qst Q7 32 (Q7 32 + 1)) := QLE_st le7 (by have := le7 32 (by decide); omega)
    have QV : QRR (qst Qp 46 (Q 46)) wP V := X6.2.2.2.2.2.2.1.1
    have QwY : QRR Q w Y := QRR_tr (Q2 := qst Qp 46 (Q 46)) (QRR_tr (Q2 := Q) hxr.1 ⟨fun k a1 a2 a3 => QV.1 k a1 a2 a3, fun k n a1 a2 => QV.2.1 k n a1 (Nat.lt_of_lt_of_le a2 (leQ _ (grp_m a1))), fun k n a1 => QV.2.2 k n (by
      rcases a1 with a1 | a1
      · exact Or.inl a1
      · exact Or.inr (Nat.lt_of_lt_of_le a1 (leQ 39 (by decide))))⟩ QLE_rf) (QRR_tr (Q2 := Q6) (w := V) (v := V) QRR_rf YQ le6) leQ
    have lP := hxr.2.2
    have h75 : ∀ k, k = 75 ∨ k = 77 ∨ k = 83 → (qst Q7 32 (Q7 32 + 1)) k = Q k := fun k hk => by
      have a1 := zF.2.2.2.2.2.2.1.2.2
      have a2 := X6.2.2.2.2.2.2.1.2.2
      rw [qst_no (by omega)]
      rcases hk with rfl | rfl | rfl
      · rw [a1.1, a2.1, eQo 75 (by decide), lP.1]
      · rw [a1.2.1, a2.2.1, eQo 77 (by decide), lP.2.1]
      · rw [a1.2.2, a2.2.2, eQo 83 (by decide), lP.2.2]
    have k0r : ∀ k, k = 40 ∨ k = 41 ∨ k = 43 ∨ k = 44 ∨ k = 45 → Y.2.2.1 k (Q 46) = V.2.2.1 k (Q 46) := fun k hk => by
      have gk : grp k = 46 := by unfold grp; rw [if_neg (by omega), if_neg (by omega), if_pos (by omega)]
      exact YQ.2.1 k (Q 46) (by rw [gk]; decide) (by rw [gk]; exact q46)
    obtain ⟨Wp, ho1, ho2⟩ := hho
    obtain ⟨W6, h61, h62⟩ := X6.2.2.2.2.1
    obtain ⟨W7, h71, h72⟩ := zF.2.2.2.2.1
    have hln7 : e7.1.length ≤ cm7 := hC7.1.2.2.2.2.2.2
    have tl7 : t7.length = t.length := by have : (e7 :: t7).length = t7.length + 1 := rfl; omega
    have bdt : BDs t t7 := by
      have n6 := (h61.2 rfl).2
      have n7 := (h71.2 rfl).2
      cases scP with
      | nil => exact absurd hbd.1 (by show ¬ (0 = t.length + 1); omega)
      | cons eP tP =>
        cases sc6 with
        | nil => exact n6.elim
        | cons e6 t6 => exact BDs_tr hbd.2 (BDs_tr n6.2.1 n7.2.1)
    refine pp_end ⟨b7 + 1, cm7, qst Q7 32 (Q7 32 + 1), e7, t7, rfl, ⟨by omega, by omega, by omega, by omega⟩, hZC, ⟨hXY, by rw [qst_no (by decide)]; exact zF.2.2.1.2⟩, by have et : tot (e7 :: t7) = tot t7 + e7.1.length := rfl; omega, ⟨mrw p Wp (mrw (mid + 1) W6 W7), ?_, ?_⟩, ⟨fun k k1 k2 => ?_, fun k k1 k2 k3 => ?_, fun j hj => ?_, fun k j k1 k2 k3 => ?_, fun j hj => ?_, fun j hj => ?_⟩, ⟨QwY, QLE_tr leQ (QLE_tr le6 leF), ⟨h75 75 (Or.inl rfl), h75 77 (Or.inr (Or.inl rfl)), h75 83 (Or.inr (Or.inr rfl))⟩⟩, ⟨by rw [tl7]; rfl, bdt⟩, ⟨by rw [qst_no (by decide)]; omega, hk0.1, by rw [k0r 45 (by omega), Vk0 45 (by omega)]; exact hk0.2.2.1, by rw [k0r 41 (by omega), Vk0 41 (by omega)]; exact hk0.2.2.2.2⟩, hln7, fun C P R J H lst fi hx => ?_⟩
    · exact HDo_tr hst.1 (by omega) (HDo_w (fun j _ b => if_pos b) ho1) (HDo_w (fun j a _ => if_neg (by omega)) (HDo_tr (by omega) (by omega) (HDo_w (fun j _ b => if_pos b) h61.1) (HDo_w (fun j a _ => if_neg (by omega)) h71.1)))
    · rw [zr 42 (by decide), h72, ptcs_r (by decide), h62, ho2, mrw_wup (by omega) (by omega), mrw_wup (by omega) (by omega)]
    · rw [zi k k1 k2, zF.2.2.2.2.2.1.1 k k1 k2, ptcs_i k1, X6.2.2.2.2.2.1.1 k k1 k2]
      exact hxc.1 k k1 k2
    · rw [zr k k1, zF.2.2.2.2.2.1.2.1 k k1 k2 k3, ptcs_r k1, X6.2.2.2.2.2.1.2.1 k k1 k2 k3]
      exact hxc.2.1 k k1 k2 k3
    · rw [zo j (by omega) (fun y => by have := hf6 j y; omega), m7b6 j (by omega), X6.2.2.2.2.2.1.2.2.1 j (by omega)]
      exact hxc.2.2.1 j hj
    · rw [zr k (by omega), zF.2.2.2.2.2.1.2.2.2.1 k j k1 k2 (by omega), ptcs_r (by omega), X6.2.2.2.2.2.1.2.2.2.1 k j k1 k2 (by omega)]
      exact hxc.2.2.2.1 k j k1 k2 (by omega)
    · have s1 : scP.length - 1 = t.length := by omega
      have s2 : sc6.length - 1 = t.length := by omega
      have hj : j ≤ t.length := hj
      rw [zr 40 (by decide), zF.2.2.2.2.2.1.2.2.2.2.1 j (by rw [s2]; exact hj), ptcs_r (by decide), X6.2.2.2.2.2.1.2.2.2.2.1 j (by rw [s1]; exact hj)]
      exact hxc.2.2.2.2.1 j hj
    · have s1 : scP.length - 1 = t.length := by omega
      have s2 : sc6.length - 1 = t.length := by omega
      have hj : j < t.length := hj
      rw [zr 41 (by decide), zF.2.2.2.2.2.1.2.2.2.2.2 j (by rw [s2]; exact hj), ptcs_r (by decide), X6.2.2.2.2.2.1.2.2.2.2.2 j (by rw [s1]; exact hj)]
      exact hxc.2.2.2.2.2 j hj
    · -- what it does
      have hx6 : HNX nm sc6 cm6 H := XTF_hx zF hx
      have hxP : HNX nm scP cmP H := XTF_hx X6 hx6
      have fiT := FNx_l (g := true) fi
      have leQF : QLE Q (qst Q7 32 (Q7 32 + 1)) := QLE_tr leQ (QLE_tr le6 leF)
      have wZ7 : ∀ j, b6 ≤ j → j < b7 → Z.2.2.1 23 j = m7.2.2.1 23 j := fun j j1 j2 => zo j j2 (fun y => by have := hf6 j y; omega)
      have fdB : FNd w0 fof cvr C P R J m7 w7 (b6 + 3) b7 s r Q6 Q7 true L2 := by
        refine FNx_sub fiT ⟨by omega, by omega⟩ ⟨by omega, Nat.le_refl _⟩ (QLE_tr leQ le6) (QLE_st QLE_rf (by omega)) (fun j j1 j2 => wZ7 j (by omega) j2) (fun k u k1 k2 _ _ => by rw [zr k (by omega)]) ⟨fun k n k1 k2 k3 k4 k5 => Yr k n k1 k5 (Or.inl k3), fun n _ hn' => ?_⟩ (fun n n1 n2 => ?_) (fun j hj => by cases hj) (fun j hj => Or.inl ?_)
        · rw [y2, d0.2.2.2]
        · rw [if_neg (fun y => by cases y.2)]
          by_cases y : n ∈ L2
          · rw [if_pos ⟨rfl, y⟩]
            show (Y.2.2.1 30 n).toInt = 1
            rw [y4 n, if_pos y]; rfl
          · rw [if_neg (fun z => y z.2)]
            exact congrArg Int32.toInt (Yr 30 n (by decide) n2 (Or.inr y))
        · have : j = Q 46 := by simpa using hj
          omega
      have hCf : ∀ h, h ∈ fs6 → C h = ((b7 + 1 : Nat) : Int) := fun h hm => by
        have h1 := hf6 h hm
        rw [fi.1 h (by omega) (by omega) (fun y => by cases y)]
        show (Z.2.2.1 23 h).toInt = _
        rw [g5 h hm]
        exact I_ti (by omega) (by omega)
      have fdG : FNx w0 fof cvr C P R J m6 V b b6 q s (qst Qp 46 (Q 46)) Q6 true [] fs6 [Q 46] := by
        refine FNx_mo fiT ⟨hst.2.1, by omega⟩ ⟨Nat.le_refl _, by omega⟩ leQ leF (fun j j1 j2 j3 => by rw [zo j (by omega) j3, m7b6 j j2]) (fun k u k1 k2 _ hu => ?_) (fun k n k1 k2 k3 k4 k5 k6 => YQ.2.1 k n k1 k5) (fun n _ hn' => YQ.2.2 34 n (Or.inr hn')) (fun n n1 n2 => ?_) (fun j hj => by cases hj) (fun j hj _ _ => hj)
        · rw [zr k (by omega), zF.2.2.2.2.2.1.2.2.2.1 k u k1 k2 (Or.inl hu), ptcs_r (by omega)]
        · have e30 : A Y 30 n = A V 30 n := congrArg Int32.toInt (YQ.2.1 30 n (by decide) n2)
          rw [e30, if_neg (fun y => by cases y.2)]
      obtain ⟨c1', c2'⟩ := zC C P R J H fdB hx
      obtain ⟨m1, m2'⟩ := hGM C P R J H true (b7 + 1) fdG hx6 (by omega) hCf
      refine ⟨fun u u1 u2 => ?_, fun hz => ?_⟩
      · by_cases y : u < s
        · exact m1 u u1 y
        · exact c1' u (by omega) u2
      · have k0in : Q 46 < (qst Q7 32 (Q7 32 + 1)) 46 := by rw [qst_no (by decide)]; omega
        have R4 : ∀ j, 40 ≤ j ∧ j ≤ 44 → R j (Q 46) = A Y j (Q 46) := fun j hj => FNx_R fi hj ⟨Nat.le_refl _, k0in⟩
        have R41 : R 41 (Q 46) = ((kk : Nat) : Int) := by
          rw [R4 41 (by omega)]
          show (Y.2.2.1 41 (Q 46)).toInt = _
          rw [k0r 41 (by omega), Vk0 41 (by omega), hk0.2.2.2.2]
          exact I_ti (by omega) (by omega)
        have R44 : R 44 (Q 46) = ((tk : Nat) : Int) := by
          rw [R4 44 (by omega)]
          show (Y.2.2.1 44 (Q 46)).toInt = _
          rw [k0r 44 (by omega), Vk0 44 (by omega), hk0.2.2.2.1]
          exact I_ti (by omega) (by omega)
        have cw : ∀ k z, [24, I (kk : Nat), line][k]? = some z → k < 3 → C (b6 + k) = z.toInt := fun k z hz hk => by
          rw [fi.1 (b6 + k) (by omega) (by omega) (fun y => by cases y)]
          show (Z.2.2.1 23 (b6 + k)).toInt = _
          rw [wZ7 (b6 + k) (by omega) (by omega), zF.2.2.2.2.2.1.2.2.1 (b6 + k) (by omega)]
          exact congrArg Int32.toInt (ptcs_at hz)
        have c35 : C b7 = 35 := by
          rw [fi.1 b7 (by omega) (by omega) (fun y => by cases y)]
          show (Z.2.2.1 23 b7).toInt = _
          rw [z35]; rfl
        have R29 : R 23 (Q7 32) = 29 := by
          rw [fi.2.2.2.1.1 23 (Q7 32) (by decide) (by decide) (by decide) (by decide) (by decide) (by show Q 32 ≤ Q7 32; exact Nat.le_trans (leQ 32 (by decide)) (Nat.le_trans (le6 32 (by decide)) (le7 32 (by decide)))) (by show Q7 32 < (qst Q7 32 (Q7 32 + 1)) 32; rw [qst_at]; omega) (fun y => absurd y (by decide))]
          show (Y.2.2.1 23 (Q7 32)).toInt = _
          rw [y3 23 _ (by decide), d1]; rfl
        obtain ⟨x1, x2⟩ := XB c.2.2.1 hC7 hR7 hx h16
        have hend : CRe C R J none b7 (Q7 32) H (Onm nm (e7 :: t7)) := cr_1 x1 x2 ⟨0, Or.inr (Or.inr (Or.inr (Or.inr (Or.inr (Or.inr (Or.inr (Or.inr (Or.inr (Or.inr (Or.inr (Or.inr (Or.inr (Or.inr (Or.inr (Or.inr (Or.inr (Or.inr (Or.inr (Or.inr (Or.inr (Or.inr (Or.inr (Or.inr (Or.inr (Or.inr (Or.inr (Or.inr (Or.inr (Or.inl ⟨R29, rfl, c35⟩)))))))))))))))))))))))))))))⟩
        obtain ⟨dB, hB2⟩ := c2' none ⟨fun _ => rfl, fun _ => rfl⟩ hend
        have ckk : C (b6 + 1) = ((kk : Nat) : Int) := by
          rw [cw 1 _ rfl (by decide)]
          exact I_ti (by omega) (by omega)
        have hCH : ∃ f, CHs C R (CRs C R J f) 0 b6 (Q 46) H (Onm nm sc6) := by
          refine ⟨dB, Q6 32, ?_, Or.inl ⟨rfl, cw 0 _ rfl (by decide), by rw [ckk, R41], ⟨tk, R44, ?_⟩, hB2⟩⟩
          · rw [R4 43 (by omega)]
            show (Y.2.2.1 43 (Q 46)).toInt = _
            rw [k0r 43 (by omega), V43]
            have q6 := (XRS_q hR6).2
            exact I_ti (by omega) (by omega)
          · rw [cw 2 _ rfl (by decide), hln, fi.2.2.1 8 tk (Or.inl rfl)]
        have hg2 := m2' hz hCH
        have hd2 := hch C R J H (b7 + 1) (fun j j1 j2 j3 => by
          rw [fi.1 j j1 (by omega) (fun y => by cases y)]
          show (Z.2.2.1 23 j).toInt = (mP.2.2.1 23 j).toInt
          rw [zo j (by omega) (fun y => by
            rcases hsub2 j y with y | y
            · exact j3 y
            · omega), m7b6 j (by omega), X6.2.2.2.2.2.1.2.2.1 j j2]) fi.2.2.1 (fun k q k1 k2 k3 q1' q2' => by
          have gk : grp k = 39 := by unfold grp; rw [if_neg (by omega), if_pos ⟨k1, k2⟩]
          have l39 := le6 39 (by decide)
          have l39b := leF 39 (by decide)
          rw [eQo 39 (by decide)] at l39
          rw [fi.2.2.2.1.1 k q (by omega) (by omega) (by omega) k3 (by rw [gk]; decide) (by rw [gk]; exact q1') (by rw [gk]; omega) (fun y => by omega)]
          show (Y.2.2.1 k q).toInt = (wP.2.2.1 k q).toInt
          rw [YQ.2.1 k q (by rw [gk]; decide) (by rw [gk]; omega), QV.2.1 k q (by rw [gk]; decide) (by rw [gk, eQo 39 (by decide)]; exact q2')]) (fun q q1' q2' => by
          have l39 := le6 39 (by decide)
          have l39b := leF 39 (by decide)
          rw [eQo 39 (by decide)] at l39
          rw [fi.2.2.2.1.2.2.2 q q1' (by omega), YQ.2.2 34 q (Or.inr (by omega)), QV.2.2 34 q (Or.inr (by rw [eQo 39 (by decide)]; exact q2'))]) (fun _ => by
          rw [R4 40 (by omega)]
          show (Y.2.2.1 40 (Q 46)).toInt = (wP.2.2.1 40 (Q 46)).toInt
          rw [k0r 40 (by omega), Vk0 40 (by omega)]) R41 hxP.1 (fun h hm => hCf h (hsub h hm))
        have on0 : Onm nm (e :: t) = [] := by unfold Onm; show e.1.map nm = []; rw [he]; rfl
        rw [on0] at hd2
        refine zr_c (e := b) (O2 := Onm nm scP) (by omega) (by omega) ?_ ?_
        · rcases hd2 with ⟨x1', x2', x3'⟩ | ⟨x1', x2', x3', x4', e2', x5', x6', x7'⟩
          · exact Or.inl ⟨Or.inr ⟨rfl, by rw [R41, x1']; rfl⟩, x2', x3'⟩
          · exact Or.inr ⟨x1', ⟨b7 + 1, x2', hz⟩, kk, e2', Or.inl ⟨rfl, x3', R41, x4'⟩, x5', x6', x7'⟩
        · rcases hg2 with x1' | ⟨g, x1', x2', x3', x4', x5'⟩
          · exact Or.inl x1'
          · exact Or.inr ⟨g, b7 + 1, x1', x2', by rw [x3']; rfl, x4', by omega, hz, x5'⟩
  have hCx := X1.2.1
  have hRx := X1.2.2.1.1
  refine gd_w c hRx (fun k19 => ?_) (fun k19 => ?_)
  · -- no GUARD
    rcases hg with ⟨h19, rfl, rfl⟩ | ⟨gx, kg, h19, h6, hw⟩
    · refine gd_no (XCS_fr hCp) hn h19 ?_
      refine rd_43c (Q := qst Qp 46 (Q 46)) c X1 ⟨by rw [eQ46]; exact Nat.le_refl _, by omega⟩ hmT (fun V X3 hVJ hVr hV42 hV43 => ?_)
      refine rest mP V b cmP Qp scP fs v4 X3 hfs hfr (fun h hm => hm) (fun h hm => Or.inl hm) hV43 (fun k hk => hVr k _ (Or.inl (by omega))) (by omega) (fun C P R J H lst fl fi hx h0 hhk => ⟨fun u u1 u2 => by omega, fun hz hc => Or.inl ⟨?_, hc⟩⟩)
      rw [FNx_R fi (j := 42) (k := Q 46) (by omega) ⟨by rw [eQ46]; exact Nat.le_refl _, by omega⟩]
      show (V.2.2.1 42 (Q 46)).toInt = _
      rw [hV42]; rfl
    · exact absurd (kA c (by omega) h6) k19
  · -- a GUARD
    rcases hg with ⟨h19, rfl, rfl⟩ | ⟨gx, kg, h19, h6, hw⟩
    · exact absurd (k38.symm.trans k19) (by decide)
    · have hw1 := (RW_hdK (XP_bdK f o 3) hw).1
      unfold HDc at hw1
      cases d with
      | zero => exact pp_nr
      | succ d =>
      have XA := XTF_ad X1 (show p + 1 < T by omega) (by rw [k19]; decide)
      have tA := XA.2.2.2.1
      have lA := XTF_len XA
      refine gd_all c IE hw hxd (by omega) ⟨by rw [k38]; exact ⟨rfl, by decide, by decide, by decide⟩, by rw [k38]; decide, by omega⟩ hCp XA.2.2.1.1 hqp (by omega) hn h19 (fun m6 w6 b6 cm6 Q6 sc6 hGd same hab6 hwd6 hcd => ?_)
      have X4 := XTF_tr XA hGd
      refine rd_43c (Q := qst Qp 46 (Q 46)) c X4 ⟨by rw [eQ46]; exact Nat.le_refl _, by omega⟩ hmT (fun V X3 hVJ hVr hV42 hV43 => ?_)
      have le6 := hGd.2.2.2.2.2.2.1.2.1
      have l46 := le6 46 (by decide)
      have rk6 : ∀ k y, grp k ≠ 0 → y < Qp (grp k) → w6.2.2.1 k y = wP.2.2.1 k y := fun k y k1 k2 => hGd.2.2.2.2.2.2.1.1.2.1 k y k1 k2
      have mk6 : ∀ j, j < b → m6.2.2.1 23 j = mP.2.2.1 23 j := hGd.2.2.2.2.2.1.2.2.1
      have b64 : b6 ≤ 23990 := hGd.2.1.1.2.2.1.2.2
      have six : ∀ k, 40 ≤ k → k ≤ 45 → grp k = 46 := fun k k1 k2 => by unfold grp; rw [if_neg (by omega), if_neg (by omega), if_pos ⟨k1, k2⟩]
      have sO : Onm nm sc6 = Onm nm scP := by unfold Onm; rw [same]
      refine rest m6 V b6 cm6 Q6 sc6 ((b + 2) :: fs) _ X3 ⟨rfl, ⟨by omega, by omega⟩, fun h' hm => by have := hfr h' hm; omega, by rw [hwd6.2.2]; exact HKc_fr hfs (fun j hj => mk6 j (hfr j hj).2)⟩ (fun h hm => by
        rcases List.mem_cons.mp hm with rfl | hm
        · omega
        · have := hfr h hm; omega) (fun h hm => List.mem_cons_of_mem _ hm) (fun h hm => by
        rcases List.mem_cons.mp hm with rfl | hm
        · exact Or.inr (by omega)
        · exact Or.inl hm) hV43 (fun k hk => by
        rw [hVr k _ (Or.inl (by omega)), rk6 k _ (by rw [six k (by omega) (by omega)]; decide) (by rw [six k (by omega) (by omega)]; omega)]) (by omega) (fun C P R J H lst fl fi hx h0 hhk => ?_)
      have nf : ∀ j, b ≤ j → j ≠ b + 2 → j ∉ (b + 2) :: fs := fun j j1 j2 y => by
        rcases List.mem_cons.mp y with y | y
        · exact j2 y
        · have := hfr j y; omega
      have c21 := C_of fi (j := b) ⟨Nat.le_refl _, by omega⟩ (nf _ (Nat.le_refl _) (by omega)) hwd6.1
      have cl := C_of fi (j := b + 1) ⟨by omega, by omega⟩ (nf _ (by omega) (by omega)) hwd6.2.1
      have lenE : (mP.1 706 - m.1 706).toInt = (((Onm nm scP).length : Nat) : Int) := by
        have tb : tot scP = tot (e :: t) + (Onm nm scP).length := by
          cases scP with
          | nil => exact absurd hbd.1 (by show ¬ (0 = t.length + 1); omega)
          | cons eP tP =>
            have l1 : (Onm nm (eP :: tP)).length = eP.1.length := by unfold Onm; rw [List.length_map]; rfl
            have et : tot (e :: t) = tot t := by show tot t + e.1.length = _; rw [he]; rfl
            rw [l1, et]
            show tot tP + eP.1.length = _
            have hb2 : tot tP = tot t := (BDs_len hbd.2).2
            rw [hb2]
        have hb := hCp.1.2.1.2.2.2.1
        rw [hCp.1.2.1.2.2.1, m706, I_sub, I_ti (by omega) (by omega), tb]
        omega
      have R42 := FNx_R fi (j := 42) (k := Q 46) (by omega) ⟨by rw [eQ46]; exact Nat.le_refl _, by omega⟩
      have fd : FNd w0 fof cvr C P R J m6 w6 (b + 3) b6 q s Qp Q6 lst [] := by
        refine FNx_sub fi ⟨by omega, Nat.le_refl _⟩ ⟨Nat.le_refl _, Nat.le_refl _⟩ X1.2.2.2.2.2.2.1.2.1 QLE_rf (fun _ _ _ => rfl) (fun _ _ _ _ _ _ => rfl) ⟨fun k y k1 k2 k3 k4 k5 => hVr k y ?_, fun y _ _ => by rw [hVJ]⟩ (fun y y1 y2 => ?_) (fun j hj => Or.inl ?_) (fun j hj => Or.inl ?_)
        · by_cases z : k = 42 ∨ k = 43
          · have : Qp 46 ≤ y := by rcases z with rfl | rfl <;> exact k4
            exact Or.inr (by omega)
          · exact Or.inl (by omega)
        · have e30 : A V 30 y = A w6 30 y := congrArg Int32.toInt (hVr 30 y (Or.inl (by decide)))
          rw [e30]
        · rcases List.mem_cons.mp hj with rfl | hj
          · omega
          · have := hfr j hj; omega
        · have : j = Q 46 := by simpa using hj
          omega
      obtain ⟨g1, g2⟩ := hcd C P R J H lst fd hx
      refine ⟨g1, fun hz hc => Or.inr ⟨Qp 32, ?_, c21, cl.trans lenE, hhk _ List.mem_cons_self, g2 0 (Q 46) 0 hc⟩⟩
      rw [R42]
      show (V.2.2.1 42 (Q 46)).toInt = _
      rw [hV42]
      exact I_ti (by omega) (by have := (XRS_q hRp).2; omega)
end
