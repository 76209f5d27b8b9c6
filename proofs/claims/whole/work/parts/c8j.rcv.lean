/-! a receive begins -/
set_option maxRecDepth 100000
section
variable {Sf : MS → Int32 → Prop} {α β : Type} {N p j n t nbj hl ol : Nat} {m w : MS} {v : Int} {Q : MS → α → MS → β → Prop} {D : Option (MS × α)} {K : MS → Unit → Option (MS × β)}
theorem one_27 : fm_M_one N w (I v) (I 27) = ck (inb (w.1 133) (ln 110)) (lt (upA w 110 (upd (w.2.2.1 110) (w.1 133).toNatClampNeg 0)) (fun w30 => ck (inb (I v) (ln 31)) (br (decide ((w30.2.2.1 31 (I v).toNatClampNeg) = (-1))) (ck (inb (w30.1 133) (ln 111)) (lt (upJ w30 111 (vp_updL (w30.2.2.2 111) (w30.1 133).toNatClampNeg (-1))) (fun w31 => bnd (fm_M_goOnWith N w31 (I v)) (fun u5 _ => some (u5, ()))))) (bnd (fm_M_goOnWith N w30 (I v)) (fun u5 _ => some (u5, ())))))) := rfl
/-- the numbers of a receive, here -/
theorem goW_r (hpp : p < 24) (h133 : F w 133 = ((p : Nat) : Int)) (h95 : A w 95 p = ((j + 1 : Nat) : Int)) (hj : j < 60) (hn : n < 100000) (h110 : A w 110 p = ((t : Nat) : Int)) (h99 : A w 99 (60 * p + j) = ((nbj : Nat) : Int)) (h101 : A w 101 (60 * p + j) = ((hl : Nat) : Int)) (h27 : A w 27 n = ((ol : Nat) : Int)) (h : PP Q D (bnd (gwB N (wi (wi (wi (wi (wi w 159 ((n : Nat) : Int)) 158 ((t : Nat) : Int)) 153 3) 155 (A w 25 n)) 156 ((nbj + hl + ol : Nat) : Int))) K)) : PP Q D (bnd (fm_M_goOnWith N w (I ((n : Nat) : Int))) K) := by
  unfold fm_M_goOnWith fb_M_goOnWith_0
  have ix : (I ((p : Nat) : Int) * 60 + I ((j + 1 : Nat) : Int) - 1).toNatClampNeg = 60 * p + j := by
    rw [show (60 : Int32) = I 60 from rfl, lit1, I_mul, I_add, I_sub]
    exact tnI (n := 60 * p + j) (by omega) (by omega)
  unfold fm_M_frame0 fb_M_frame0_0
  rw [I_F' h133, tnI (n := p) rfl (by omega), I_A' h95]
  refine rb_bnd (pk_ck (fun _ => pk_some ?_))
  rw [wi_e, lt_e]
  have e1 : F (wi w 159 ((n : Nat) : Int)) 133 = ((p : Nat) : Int) := by rw [wi_ne (by omega)]; exact h133
  have e2 : A (wi w 159 ((n : Nat) : Int)) 110 p = ((t : Nat) : Int) := h110
  refine rb_ck (fun _ => ?_)
  rw [I_F' e1, tnI (n := p) rfl (by omega), I_A' e2, wi_e, lt_e, show (3 : Int32) = I 3 from rfl, wi_e, lt_e]
  refine rb_ck (fun _ => ?_)
  rw [tnI (n := n) rfl (by omega), I_A (k := 25), wi_e, lt_e]
  refine rb_ck (fun _ => rb_ck (fun _ => rb_ck (fun _ => ?_)))
  have e3 : A (wi (wi (wi (wi w 159 ((n : Nat) : Int)) 158 ((t : Nat) : Int)) 153 3) 155 (A (wi (wi (wi w 159 ((n : Nat) : Int)) 158 ((t : Nat) : Int)) 153 3) 25 n)) 99 (60 * p + j) = ((nbj : Nat) : Int) := h99
  have e4 : A (wi (wi (wi (wi w 159 ((n : Nat) : Int)) 158 ((t : Nat) : Int)) 153 3) 155 (A (wi (wi (wi w 159 ((n : Nat) : Int)) 158 ((t : Nat) : Int)) 153 3) 25 n)) 101 (60 * p + j) = ((hl : Nat) : Int) := h101
  have e5 : A (wi (wi (wi (wi w 159 ((n : Nat) : Int)) 158 ((t : Nat) : Int)) 153 3) 155 (A (wi (wi (wi w 159 ((n : Nat) : Int)) 158 ((t : Nat) : Int)) 153 3) 25 n)) 27 n = ((ol : Nat) : Int) := h27
  rw [ix, I_A' e3, I_A' e4, I_A' e5, addN, addN, wi_e, lt_e]
  exact h
end
section
variable {Sf : MS → Int32 → Prop} {β : Type} {b : Int → Nat → Nat → Prop} {N p U B W Y j a n t sc M1 vk : Nat} {m w : MS} {nb : Nat → Nat} {Hs Os : Nat → List Nat} {Q : MS → Int32 → MS → β → Prop} {K2 : MS → Option (MS × β)}
/-- AWAIT without after, there -/
theorem await0_m (hpc : F m 1105 = ((a : Nat) : Int)) (ha : a + 1 < 24000) (c1 : A m 23 (a + 1) = 0) : hm_Ma_flow N m p (I 31) = some (wi (wl (wi m (pq p 8) 0) (pq p 10) (-1)) 1105 ((a + 2 : Nat) : Int), ()) := by
  rw [flo31, I_F' hpc, show I ((a : Nat) : Int) + 1 = I ((a + 1 : Nat) : Int) from addN, Co_e (k := a + 1) rfl ha, bnd_so, c1, show decide (I 0 = 1) = false from rfl, br_f]
  unfold hm_Ma_await hb_Ma_await_0 hb_Ma_await_104
  have e5 : F (wl (wi m (pq p 8) 0) (pq p 10) (-1)) 1105 = ((a : Nat) : Int) := by
    show F (wi m (pq p 8) 0) 1105 = _
    rw [wi_ne (pq_n (by omega))]
    exact hpc
  rw [show upI m (pq p 8) 0 = wi m (pq p 8) 0 from rfl, lt_e, show upL (wi m (pq p 8) 0) (pq p 10) (-1) = wl (wi m (pq p 8) 0) (pq p 10) (-1) from rfl, lt_e, show decide ((0 : Int32) = 0) = true from rfl, br_t, I_F' e5, show I ((a : Nat) : Int) + 2 = I ((a + 2 : Nat) : Int) from addN, wi_e, lt_e, bnd_so, bnd_so]
/-- the state in which messages are looked at -/
theorem NX_of (fc : FAs m w p j nb Hs Os ∧ CTs m w p j nb Hs Os) (h9 : F m (pq p 9) = 0) (h109 : A w 109 p = 0) (h12 : F m 1112 = 0) (h152 : F w 152 = 0) (r8 : F m 1108 = 0) (r9 : F m 1109 = 0) (r10 : F w 151 = 0) (r11 : F w 133 = ((p : Nat) : Int)) (r12 : m.1 1106 = w.1 165) (r13 : m.1 1107 = w.1 164) (hpc : F m 1105 = ((sc : Nat) : Int)) (h8 : F m (pq p 8) = ((t : Nat) : Int)) (ht : t < 100000) (hn : n < 100000) (hb : nb j + (Hs j).length + (Os j).length < 100000) (dl : DLs (m.2.1 (pq p 10)) (w.2.2.2 111 p)) (h23 : A w 23 n = 27) (h27 : A w 27 n = (((Os j).length : Nat) : Int)) (nd : (Os j).Nodup ∧ (Hs j).Nodup) (rc : ∃ g, RCs (A m 23) (ROs w) (w.2.2.2 34) (CRs (A m 23) (ROs w) (w.2.2.2 34) g) g sc n (Hs j) (Os j)) : NXs m (wi (wi (wi (wi (wi w 159 ((n : Nat) : Int)) 158 ((t : Nat) : Int)) 153 3) 155 (A w 25 n)) 156 ((nb j + (Hs j).length + (Os j).length : Nat) : Int)) p j nb Hs Os sc := by
  have c25 := A_r w 25 n
  have lo : ∀ l, l ≠ 159 → l ≠ 158 → l ≠ 153 → l ≠ 155 → l ≠ 156 → (wi (wi (wi (wi (wi w 159 ((n : Nat) : Int)) 158 ((t : Nat) : Int)) 153 3) 155 (A w 25 n)) 156 ((nb j + (Hs j).length + (Os j).length : Nat) : Int)).1 l = w.1 l := fun l h1 h2 h3 h4 h5 => by rw [wi_1 h5, wi_1 h4, wi_1 h3, wi_1 h2, wi_1 h1]
  have lF : ∀ l, l ≠ 159 → l ≠ 158 → l ≠ 153 → l ≠ 155 → l ≠ 156 → F (wi (wi (wi (wi (wi w 159 ((n : Nat) : Int)) 158 ((t : Nat) : Int)) 153 3) 155 (A w 25 n)) 156 ((nb j + (Hs j).length + (Os j).length : Nat) : Int)) l = F w l := fun l h1 h2 h3 h4 h5 => congrArg Int32.toInt (lo l h1 h2 h3 h4 h5)
  refine ⟨⟨fc, ⟨h9, h109⟩, Or.inl ⟨rfl, h12, (lF 152 (by omega) (by omega) (by omega) (by omega) (by omega)).trans h152⟩, ⟨r8, r9, (lF 151 (by omega) (by omega) (by omega) (by omega) (by omega)).trans r10⟩, (lF 133 (by omega) (by omega) (by omega) (by omega) (by omega)).trans r11, by rw [lo 165 (by omega) (by omega) (by omega) (by omega) (by omega)]; exact r12, by rw [lo 164 (by omega) (by omega) (by omega) (by omega) (by omega)]; exact r13⟩, hpc, ⟨?_, wi_sm (by omega) (by omega)⟩, fun _ => ⟨⟨?_, dl⟩, n, ?_, ?_, h23, h27, rc⟩, nd⟩
  · rw [wi_ne (by omega), wi_ne (by omega), wi_sm (by omega) (by omega)]
  · rw [wi_ne (by omega), wi_ne (by omega), wi_ne (by omega), wi_sm (by omega) (by omega), h8]
  · rw [wi_ne (by omega), wi_ne (by omega), wi_ne (by omega), wi_ne (by omega), wi_sm (by omega) (by omega)]
  · rw [wi_ne (by omega), wi_sm c25.1 c25.2]
    rfl
/-- a receive without after begins -/
theorem op_rcv (hpp : p < 24) (pl : PLs b p m w U B W Y) (ru : RUs m w p j nb Hs Os none a n) (hB2 : B < 100000) (hY : Y ≤ 30) (hvk : vk + 200 < 1000000000) (h956 : F m 955 ≤ F m 956) (hcl : m.1 944 = w.1 120) (c31 : A m 23 a = 31) (c32 : A m 23 (a + 1) = 0) (h31 : A w 31 n = -1) (h23 : A w 23 n = 27) (h27 : A w 27 n = (((Os j).length : Nat) : Int)) (rc : ∃ g, RCs (A m 23) (ROs w) (w.2.2.2 34) (CRs (A m 23) (ROs w) (w.2.2.2 34) g) g (a + 2) n (Hs j) (Os j))
    (kW : ∀ M' vk' m3 w3, M' ≤ M1 → vk' ≤ vk + 61 → WTn m3 w3 p j nb Hs Os (a + 2) → PLs b p m3 w3 U B W Y → GGm p m m3 → GGw p w w3 → (SCs p m w → SCs p m3 w3) → PP Q (q195 Sf N (qgo Sf N M') m3 p (I ((vk' : Nat) : Int))) (K2 w3))
    (kR : ∀ M' vk' m3 w3 l q, M' ≤ M1 → vk' ≤ vk + 61 → RUs m3 w3 p j nb Hs Os none l q → PLs b p m3 w3 U B W Y → GGm p m m3 → GGw p w w3 → (SCs p m w → SCs p m3 w3) → PP Q (q195 Sf N (qgo Sf N M') m3 p (I ((vk' : Nat) : Int))) (K2 w3))
    (kT : ∀ M' vk' m3 w3 k, M' ≤ M1 → vk' ≤ vk + 1 → 0 < Y → TRs m3 w3 p j nb Hs Os 3 (a + 2) (a + 2 + 2) k → PLs b p m3 (wa w3 94 p ((B : Nat) : Int)) U B W Y → F m3 (pq p 8) = ((0 : Nat) : Int) → GGm p m m3 → GGw p w w3 → (SCs p m w → SCs p m3 w3) → (w3.2.2.2 88 = w.2.2.2 88 ∧ w3.1 140 = w.1 140) → PP Q (q195 Sf N (qgo Sf N M') m3 p (I ((vk' : Nat) : Int))) (bnd (gg_M_choose N (rc_M_error N 19) N w3 1) (fun u _ => K2 u))) : PP Q (bnd (hm_Ma_flow N m p (I 31)) (fun u _ => q195 Sf N (qgo Sf N M1) u p (I ((vk : Nat) : Int)))) (bnd (fm_M_one N w (I ((n : Nat) : Int)) (I 27)) (fun u _ => K2 u)) := by
  obtain ⟨⟨fa, ct⟩, ⟨r2, r3⟩, ⟨f0, cr0⟩, ⟨r5, r6⟩, r7, ⟨r8, r9, r10⟩, r11, r12, r13⟩ := id ru
  obtain ⟨h12, h152⟩ : F m 1112 = 0 ∧ F w 152 = 0 := by
    rcases r7 with ⟨_, c3, c4⟩ | ⟨_, _, _, c, _⟩
    · exact ⟨c3, c4⟩
    · cases c
  have cb := CR_b cr0
  have hj : j < 60 := fa.1.2.2
  obtain ⟨-, -, ⟨-, g4⟩, -, g6, -⟩ := fa.2.1 j (Nat.le_refl _)
  have hB : B = nb j + (Hs j).length + (Os j).length := by
    have h1 := pl.2.1.1
    rw [fa.2.2.2, List.length_append] at h1
    omega
  rw [await0_m r2 cb.1 c32, bnd_so]
  generalize hm1 : wi (wl (wi m (pq p 8) 0) (pq p 10) (-1)) 1105 ((a + 2 : Nat) : Int) = m1
  have mq : ∀ l, l ≠ 8 → m1.1 (pq p l) = m.1 (pq p l) := fun l h => by
    rw [← hm1, wi_1 (fun c => pq_n (by omega) c.symm)]
    show (wi m (pq p 8) 0).1 (pq p l) = _
    rw [wi_1 (pq_inj h)]
  have mg : ∀ l, l < 2000 → l ≠ 1105 → m1.1 l = m.1 l := fun l h0 h => by
    rw [← hm1, wi_1 h]
    show (wi m (pq p 8) 0).1 l = _
    rw [wi_1 (pq_n h0)]
  have mF : ∀ l, l < 2000 → l ≠ 1105 → F m1 l = F m l := fun l h0 h => congrArg Int32.toInt (mg l h0 h)
  have mr : m1.2.2 = m.2.2 := by rw [← hm1]; rfl
  have m8 : F m1 (pq p 8) = ((0 : Nat) : Int) := by
    rw [← hm1, wi_ne (fun c => pq_n (by omega) c.symm)]
    show F (wi m (pq p 8) 0) (pq p 8) = _
    rw [wi_sm (by omega) (by omega)]; rfl
  have mL : m1.2.1 (pq p 10) = -1 := by rw [← hm1]; exact if_pos rfl
  have mpc : F m1 1105 = ((a + 2 : Nat) : Int) := by rw [← hm1, wi_sm (by omega) (by omega)]
  have gm : GGm p m m1 := by
    rw [← hm1]
    exact GGm.tr (GGm.tr (GGm_own (by omega)) (GGm_l (by omega))) (GGm_reg (by omega))
  have h23c : A m1 23 = A m 23 := by funext i; show (m1.2.2.1 23 i).toInt = _; rw [mr]; rfl
  refine go195 ((mF 1109 (by omega) (by omega)).trans r9) (by rw [mF 955 (by omega) (by omega), mF 956 (by omega) (by omega)]; exact h956) (fun hsf => ?_)
  cases M1 with
  | zero => exact pp_nl
  | succ M1 =>
  show PP Q (q67 Sf N (qgo Sf N M1) m1 p (I ((vk + 1 : Nat) : Int))) _
  rw [one_27]
  refine rb_ck (fun _ => ?_)
  rw [I_F' r11, tnI (n := p) rfl (by omega), lit0, wa_e, lt_e]
  refine rb_ck (fun _ => ?_)
  have e31 : A (wa w 110 p 0) 31 n = -1 := by rw [wa_rne (by omega)]; exact h31
  have e33 : F (wa w 110 p 0) 133 = ((p : Nat) : Int) := r11
  rw [tnI (n := n) rfl (by omega), I_A' e31, show decide (I (-1) = -1) = true from rfl, br_t]
  refine rb_ck (fun _ => ?_)
  rw [I_F' e33, tnI (n := p) rfl (by omega), wj_e, lt_e]
  refine r_bb ?_
  generalize hw1 : wj (wa w 110 p 0) 111 p (-1) = w1
  have wR : ∀ K, K ≠ 110 → w1.2.2.1 K = w.2.2.1 K := fun K h => by
    rw [← hw1]
    show (wa w 110 p 0).2.2.1 K = _
    exact wa_21 h
  have wA : ∀ K i, K ≠ 110 → A w1 K i = A w K i := fun K i h => by show (w1.2.2.1 K i).toInt = _; rw [wR K h]; rfl
  have w1i : w1.1 = w.1 := by rw [← hw1]; rfl
  have w1F : ∀ l, F w1 l = F w l := fun l => by show (w1.1 l).toInt = _; rw [w1i]; rfl
  have wJ : ∀ K, K ≠ 111 → w1.2.2.2 K = w.2.2.2 K := fun K h => by rw [← hw1, wj_22 h]; rfl
  have w111 : w1.2.2.2 111 p = -1 := by rw [← hw1, wj_row, if_pos rfl]
  have w111' : ∀ i, i ≠ p → w1.2.2.2 111 i = w.2.2.2 111 i := fun i h => by rw [← hw1, wj_row, if_neg h]; rfl
  have w110 : A w1 110 p = ((0 : Nat) : Int) := by
    rw [← hw1]
    show A (wa w 110 p 0) 110 p = _
    rw [wa_sm (by omega) (by omega)]; rfl
  have pr : ∀ K, PRr K → w1.2.2.1 K = w.2.2.1 K := fun K h => wR K (by unfold PRr at h; omega)
  have fc1 : FAs m1 w1 p j nb Hs Os ∧ CTs m1 w1 p j nb Hs Os := FC_w ⟨fa, ct⟩ (fun l h => mq l (by omega)) (fun l _ => by rw [mr]) (by rw [mr]) (fun K h => by rw [wR K (by omega)]) (fun K r h1 h2 h3 h4 => by rw [wR K (by omega)]) (fun K c h1 h2 _ => by rw [wR K (by omega)]) pr (wJ 34 (by omega))
  have pl1 : PLs b p m1 w1 U B W Y := PLs_cg pl (fun l hl => mq l (by simp at hl; omega)) (fun i _ => by rw [mr]) (fun i _ => by rw [mr]) (fun i _ => by rw [mr]) (fun i _ => by rw [mr]) (fun K hK => by rw [wR K (by simp at hK; omega)]) (fun i _ => by rw [wJ 88 (by omega)]) (fun i _ => by rw [wJ 93 (by omega)]) (fun i _ => by rw [wJ 91 (by omega)]) (fun i _ => by rw [wJ 107 (by omega)])
  have gw1 : GGw p w w1 := by
    refine GGw.tr (w2 := wa w 110 p 0) (GGw_own (Or.inl ⟨by omega, rfl⟩)) ?_
    rw [← hw1]
    exact ⟨fun d hd => ⟨fun _ _ _ => rfl, fun _ _ => rfl, fun _ _ _ => rfl, by rw [wj_row, if_neg hd], fun _ _ _ => by rw [wj_22 (by omega)], fun _ _ _ => by rw [wj_22 (by omega)], fun _ _ _ => by rw [wj_22 (by omega)], fun _ _ _ => by rw [wj_22 (by omega)]⟩, ⟨fun _ _ => rfl, wj_22 (by omega), rfl, rfl, rfl⟩, rfl, fun _ _ => rfl, wj_22 (by omega), fun _ _ => rfl, fun _ _ => rfl⟩
  have sc1 : SCs p m w → SCs p m1 w1 := fun s => SC_ow s (fun l hl => mq l (by omega)) (by rw [mr]) (fun K h1 h2 => wR K (by omega))
  obtain ⟨g, rc⟩ := rc
  have rc1 : ∃ g, RCs (A m1 23) (ROs w1) (w1.2.2.2 34) (CRs (A m1 23) (ROs w1) (w1.2.2.2 34) g) g (a + 2) n (Hs j) (Os j) := ⟨g, by rw [h23c, ROs_eq pr, wJ 34 (by omega)]; exact rc⟩
  refine goW_r (j := j) (t := 0) (nbj := nb j) (hl := (Hs j).length) (ol := (Os j).length) hpp (by rw [w1F]; exact r11) ((wA 95 p (by omega)).trans fa.1.2.1) hj (by omega) w110 ((wA 99 _ (by omega)).trans g4) ((wA 101 _ (by omega)).trans g6) ((wA 27 _ (by omega)).trans h27) ?_
  have nx := NX_of (t := 0) (sc := a + 2) fc1 ((congrArg Int32.toInt (mq 9 (by omega))).trans r5) ((wA 109 p (by omega)).trans r6) ((mF 1112 (by omega) (by omega)).trans h12) ((w1F 152).trans h152) ((mF 1108 (by omega) (by omega)).trans r8) ((mF 1109 (by omega) (by omega)).trans r9) ((w1F 151).trans r10) ((w1F 133).trans r11) (by rw [mg 1106 (by omega) (by omega), w1i]; exact r12) (by rw [mg 1107 (by omega) (by omega), w1i]; exact r13) mpc m8 (by omega) (show n < 100000 by omega) (by omega) (by rw [mL, w111]; exact ⟨rfl, Or.inl rfl⟩) ((wA 23 _ (by omega)).trans h23) ((wA 27 _ (by omega)).trans h27) (CR_n cr0) rc1
  have g5 : GGw p w1 (wi (wi (wi (wi (wi w1 159 ((n : Nat) : Int)) 158 ((0 : Nat) : Int)) 153 3) 155 (A w1 25 n)) 156 ((nb j + (Hs j).length + (Os j).length : Nat) : Int)) := GGw.tr (GGw.tr (GGw.tr (GGw.tr (GGw_reg (by omega) (by omega)) (GGw_reg (by omega) (by omega))) (GGw_reg (by omega) (by omega))) (GGw_reg (by omega) (by omega))) (GGw_reg (by omega) (by omega))
  have pl9 : PLs b p m1 (wa (wi (wi (wi (wi (wi w1 159 ((n : Nat) : Int)) 158 ((0 : Nat) : Int)) 153 3) 155 (A w1 25 n)) 156 ((nb j + (Hs j).length + (Os j).length : Nat) : Int)) 94 p ((B : Nat) : Int)) U B W Y := PLs_94 (PLs_ri (PLs_ri (PLs_ri (PLs_ri (PLs_ri pl1))))) hB2
  refine recv_pp (t := 0) hpp nx pl9 hB hB2 hY m8 (by omega) (by omega) (by rw [mF 955 (by omega) (by omega), mF 956 (by omega) (by omega)]; exact h956) (by rw [mg 944 (by omega) (by omega), wi_1 (by omega), wi_1 (by omega), wi_1 (by omega), wi_1 (by omega), wi_1 (by omega), w1i]; exact hcl) (fun _ => mL) (fun q hq => ?_) (fun M' vk' m3 w3 q1 q2 a1 a2 a3 a4 a5 => kW M' vk' m3 w3 (by omega) (by omega) a1 a2 (GGm.tr gm a3) (GGw.tr gw1 (GGw.tr g5 a4)) (fun s => a5 (sc1 s))) (fun M' vk' m3 w3 l q q1 q2 a1 a2 a3 a4 a5 => kR M' vk' m3 w3 l q (by omega) (by omega) a1 a2 (GGm.tr gm a3) (GGw.tr gw1 (GGw.tr g5 a4)) (fun s => a5 (sc1 s))) (fun m3 w3 k q1 a1 a2 a3 a4 a5 a6 a7 => kT M1 (vk + 1) m3 w3 k (by omega) (by omega) q1 a1 a2 a3 (GGm.tr gm a4) (GGw.tr gw1 (GGw.tr g5 a5)) (fun s => a6 (sc1 s)) ⟨a7.1.trans (wJ 88 (by omega)), a7.2.trans (by rw [wi_1 (by omega), wi_1 (by omega), wi_1 (by omega), wi_1 (by omega), wi_1 (by omega), w1i])⟩)
  rw [wi_ne (by omega), wi_ne (by omega), wi_ne (by omega), wi_ne (by omega), wi_sm (by omega) (by omega)] at hq
  omega
end
