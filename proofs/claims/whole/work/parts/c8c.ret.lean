/-! a FUNCTION returns -/
set_option maxRecDepth 100000
section
variable {α β : Type} {b : Int → Nat → Nat → Prop} {N p PR U B W W0 Y j a n l ee ee' : Nat} {m w : MS} {nb : Nat → Nat} {Hs Os : Nat → List Nat} {Q : MS → α → MS → β → Prop} {K1 : MS → Option (MS × α)} {K2 : MS → Option (MS × β)} {v : Int} {Fv Fv' : Int64 → Int64 → Prop} {P P' : Int64 → Prop}
theorem one_29 : fm_M_one N w (I v) (I 29) = bnd (fm_M_returns N w) (fun u29 _ => some (u29, ())) := rfl
/-- leave there -/
theorem leave_e (h21 : F m (pq p 21) = ((j + 1 + 1 : Nat) : Int)) (hj : j + 1 < 60) (h3 : A m (pq p 30) (5 * (j + 1) + 3) = ((W0 : Nat) : Int)) (h2 : A m (pq p 30) (5 * (j + 1) + 2) = ((B : Nat) : Int)) : hm_Fr_leave N m p = some (wi (wi (wi m (pq p 26) ((W0 : Nat) : Int)) (pq p 24) ((B : Nat) : Int)) (pq p 21) ((j + 1 : Nat) : Int), ()) := by
  unfold hm_Fr_leave hb_Fr_leave_0
  have s : I ((j + 1 + 1 : Nat) : Int) - 1 = I ((j + 1 : Nat) : Int) := by rw [lit1, I_sub]; congr 1; omega
  rw [I_F' h21, s, show (3 : Int32) = I 3 from rfl, of_e (y := ((j + 1 : Nat) : Int)) (a := j + 1) (z := 3) (k := 3) (j := j + 1) h21 (by omega) rfl (Nat.le_refl _) rfl (by omega), bnd_so, h3, wi_e, lt_e]
  have e21 : F (wi m (pq p 26) ((W0 : Nat) : Int)) (pq p 21) = ((j + 1 + 1 : Nat) : Int) := by rw [wi_ne (pq_inj (by omega))]; exact h21
  have e30 : A (wi m (pq p 26) ((W0 : Nat) : Int)) (pq p 30) (5 * (j + 1) + 2) = ((B : Nat) : Int) := h2
  rw [I_F' e21, s, show (2 : Int32) = I 2 from rfl, of_e (y := ((j + 1 : Nat) : Int)) (a := j + 1) (z := 2) (k := 2) (j := j + 1) e21 (by omega) rfl (Nat.le_refl _) rfl (by omega), bnd_so, e30, wi_e, lt_e]
  have e21' : F (wi (wi m (pq p 26) ((W0 : Nat) : Int)) (pq p 24) ((B : Nat) : Int)) (pq p 21) = ((j + 1 + 1 : Nat) : Int) := by rw [wi_ne (pq_inj (by omega))]; exact e21
  rw [I_F' e21', s, wi_e, lt_e]
/-- up to the put, here -/
theorem ret_r {D : Option (MS × α)} (hpp : p < 24) (h133 : F w 133 = ((p : Nat) : Int)) (h92 : A w 92 p = ((W + 1 : Nat) : Int)) (hW : W ≤ 46000) (h95 : A w 95 p = ((j + 1 : Nat) : Int)) (hj : j < 60) (h100 : A w 100 (60 * p + j) = ((W0 : Nat) : Int)) (h99 : A w 99 (60 * p + j) = ((B : Nat) : Int)) {K : MS → Unit → Option (MS × β)}
    (h : PP Q D (bnd (br (decide (I ((j : Nat) : Int) = 0)) (bnd (fm_M_term N (wa (wa (wa (wa w 92 p ((W : Nat) : Int)) 92 p ((W0 : Nat) : Int)) 94 p ((B : Nat) : Int)) 95 p ((j : Nat) : Int)) 1 4) (fun u7 r7 => bnd (fm_M_ends N u7 0 r7) (fun u8 _ => fb_M_returns_83 N () u8))) (bnd (fm_M_put N (wa (wa (wa (wa w 92 p ((W : Nat) : Int)) 92 p ((W0 : Nat) : Int)) 94 p ((B : Nat) : Int)) 95 p ((j : Nat) : Int)) (w.2.2.2 91 (46000 * p + W))) (fun u6 _ => fb_M_returns_83 N () u6))) K)) : PP Q D (bnd (fm_M_returns N w) K) := by
  unfold fm_M_returns fb_M_returns_0
  refine rb_bnd (pk_mo (take_r (N := N) hpp h133 h92 hW) (fun w1 r1 e => ?_))
  obtain ⟨rfl, rfl⟩ := e
  have aw : ∀ K i, K ≠ 92 → A (wa w 92 p ((W : Nat) : Int)) K i = A w K i := fun K i h => by rw [wa_rne h]
  have ix : (I ((p : Nat) : Int) * 60 + I ((j + 1 : Nat) : Int) - 1).toNatClampNeg = 60 * p + j := by
    rw [show (60 : Int32) = I 60 from rfl, lit1, I_mul, I_add, I_sub]
    exact tnI (n := 60 * p + j) (by omega) (by omega)
  have x33 : F (wa w 92 p ((W : Nat) : Int)) 133 = ((p : Nat) : Int) := h133
  unfold fm_M_frame0 fb_M_frame0_0
  rw [I_F' x33, tnI (n := p) rfl (by omega), I_A' ((aw 95 p (by omega)).trans h95)]
  refine rb_bnd (pk_ck (fun _ => pk_some ?_))
  refine rb_ck (fun _ => rb_ck (fun _ => ?_))
  rw [ix, I_F' x33, tnI (n := p) rfl (by omega), I_A' ((aw 100 _ (by omega)).trans h100), wa_e, lt_e]
  generalize hw3 : wa (wa w 92 p ((W : Nat) : Int)) 92 p ((W0 : Nat) : Int) = w3
  have a3 : ∀ K i, K ≠ 92 → A w3 K i = A w K i := fun K i h => by rw [← hw3, wa_rne h, aw K i h]
  have f3 : F w3 133 = ((p : Nat) : Int) := by rw [← hw3]; exact h133
  refine rb_ck (fun _ => rb_ck (fun _ => ?_))
  rw [I_F' f3, tnI (n := p) rfl (by omega), I_A' ((a3 99 _ (by omega)).trans h99), wa_e, lt_e]
  have f4 : F (wa w3 94 p ((B : Nat) : Int)) 133 = ((p : Nat) : Int) := f3
  have a4 : A (wa w3 94 p ((B : Nat) : Int)) 95 p = ((j + 1 : Nat) : Int) := by rw [wa_rne (by omega), a3 95 p (by omega)]; exact h95
  refine rb_ck (fun _ => rb_ck (fun _ => ?_))
  rw [I_F' f4, tnI (n := p) rfl (by omega), I_A' a4, show I ((j + 1 : Nat) : Int) - 1 = I ((j : Nat) : Int) by rw [lit1, I_sub]; congr 1; omega, wa_e, lt_e]
  have f5 : F (wa (wa w3 94 p ((B : Nat) : Int)) 95 p ((j : Nat) : Int)) 133 = ((p : Nat) : Int) := f3
  have a5 : A (wa (wa w3 94 p ((B : Nat) : Int)) 95 p ((j : Nat) : Int)) 95 p = ((j : Nat) : Int) := wa_sm (by omega) (by omega)
  refine rb_ck (fun _ => ?_)
  rw [I_F' f5, tnI (n := p) rfl (by omega), I_A' a5, ← hw3]
  exact h
/-- back to the FUNCTION that called -/
theorem op_ret (hpp : p < 24) (pl : PLs b p m w U B (W + 1) Y) (ru : RUs m w p (j + 1) nb Hs Os none a n) (hW : W + 1 ≤ 46000) (hB2 : B ≤ 2500) (hl : F m (pq p 45) = ((l : Nat) : Int)) (hl2 : W + 1 ≤ l ∧ l ≤ 1000000) (h100 : A w 100 (60 * p + (j + 1)) = ((W0 : Nat) : Int)) (hW0 : W0 ≤ W) (hct : ∀ nC c : Nat, F m (pq p 28) = ((nC : Nat) : Int) → c < nC → A w 102 (1600 * p + c) < ((j + 1 : Nat) : Int))
    (c : ∀ m3 w3 a2 n2, PLs b p m3 w3 U (nb (j + 1)) (W0 + 1) Y → RUs m3 w3 p j nb Hs Os none a2 n2 → GGm p m m3 → GGw p w w3 → (SCs p m w → SCs p m3 w3) → PP Q (K1 m3) (K2 w3)) : PP Q (bnd (hm_Ma_flow N m p (I 35)) (fun u _ => K1 u)) (bnd (fm_M_one N w (I ((n : Nat) : Int)) (I 29)) (fun u _ => K2 u)) := by
  obtain ⟨⟨fa, ct⟩, ⟨r2, r3⟩, ⟨f0, cr⟩, ⟨r5, r6⟩, r7, ⟨r8, r9, r10⟩, r11, r12, r13⟩ := id ru
  obtain ⟨h12, h152⟩ : F m 1112 = 0 ∧ F w 152 = 0 := by
    rcases r7 with ⟨_, c3, c4⟩ | ⟨_, _, _, c, _⟩
    · exact ⟨c3, c4⟩
    · cases c
  have cb := CR_b cr
  obtain ⟨⟨f1, f2, f3⟩, f4, f5, f6⟩ := id fa
  obtain ⟨g1, -, ⟨g3, g4⟩, g5, -, -⟩ := f4 (j + 1) (Nat.le_refl _)
  obtain ⟨n1, a2, n2, n3, n4, n5⟩ := f5 j (by omega)
  have a2r := A_r m (pq p 30) (5 * j + 4)
  rw [n3] at a2r
  have hB : B = nb (j + 1) + (Hs (j + 1) ++ Os (j + 1)).length := by
    have h1 := pl.2.1.1
    rw [f6] at h1
    omega
  rw [h100] at g5
  rw [flo35, one_29, I_F' r2, show I ((a : Nat) : Int) + 1 = I ((a + 1 : Nat) : Int) from addN, Co_e (k := a + 1) rfl (by omega), bnd_so]
  refine l_bb (l_bb (r_bb ?_))
  unfold hm_Ma_returns hb_Ma_returns_0
  rw [I_F' f1, show decide ((1 : Int32) < I ((j + 1 + 1 : Nat) : Int)) = true from decide_eq_true (by rw [lit1, I_lt (by omega) (by omega) (by omega) (by omega)]; omega), br_t]
  have be : hm_Fr_below N m p 0 = some (m, m.2.2.2 (pq p 35) W) := by
    have := below_e (N := N) (x := 0) (k := 0) (W := W + 1) (l := l) pl.2.2.1.1 hl hl2.1 hl2.2 rfl (by omega)
    rw [show W + 1 - 1 - 0 = W by omega] at this
    exact this
  rw [be, bnd_so, leave_e f1 f3 g5 g3, bnd_so]
  generalize hm1 : wi (wi (wi m (pq p 26) ((W0 : Nat) : Int)) (pq p 24) ((nb (j + 1) : Nat) : Int)) (pq p 21) ((j + 1 : Nat) : Int) = m1
  have q1 : ∀ l, l ≠ 21 → l ≠ 24 → l ≠ 26 → m1.1 (pq p l) = m.1 (pq p l) := fun l h1 h2 h3 => by rw [← hm1, wi_1 (pq_inj h1), wi_1 (pq_inj h2), wi_1 (pq_inj h3)]
  have s1 : ∀ l, l < 2000 → m1.1 l = m.1 l := fun l h => by rw [← hm1, wi_1 (pq_n h), wi_1 (pq_n h), wi_1 (pq_n h)]
  have m12 : m1.2 = m.2 := by rw [← hm1]; rfl
  have e26 : F m1 (pq p 26) = ((W0 : Nat) : Int) := by rw [← hm1, wi_ne (pq_inj (by omega)), wi_ne (pq_inj (by omega)), wi_sm (by omega) (by omega)]
  have e24 : F m1 (pq p 24) = ((nb (j + 1) : Nat) : Int) := by rw [← hm1, wi_ne (pq_inj (by omega)), wi_sm (by omega) (by omega)]
  have e21 : F m1 (pq p 21) = ((j + 1 : Nat) : Int) := by rw [← hm1, wi_sm (by omega) (by omega)]
  have e45 : F m1 (pq p 45) = ((l : Nat) : Int) := (congrArg Int32.toInt (q1 45 (by omega) (by omega) (by omega))).trans hl
  refine lb_bnd (pk_mo (push_m (N := N) (t := m.2.2.2 (pq p 35) W) e26 e45 (by omega) hl2.2) (fun m2 _ hh => ?_))
  obtain ⟨z1, z2, z3⟩ := hh
  have q2 : ∀ l, l ≠ 26 → l ≠ 45 → m2.1 (pq p l) = m1.1 (pq p l) := fun l h1 h2 => z1.1 _ (by
    simp only [List.mem_cons, List.not_mem_nil, or_false]
    intro c
    rcases c with c | c
    · exact pq_inj h1 c
    · exact pq_inj h2 c)
  have s2 : ∀ l, l < 2000 → m2.1 l = m.1 l := fun l h => (z1.1 l (by simp; unfold pq; omega)).trans (s1 l h)
  have a30 : m2.2.2.1 = m.2.2.1 := by funext K; rw [z1.2.2.1 K (by simp), m12]
  have e21' : F m2 (pq p 21) = ((j + 1 : Nat) : Int) := (congrArg Int32.toInt (q2 21 (by omega) (by omega))).trans e21
  have n3' : A m2 (pq p 30) (5 * j + 4) = ((a2 : Nat) : Int) := by show (m2.2.2.1 (pq p 30) (5 * j + 4)).toInt = _; rw [a30]; exact n3
  have pe : hm_Fr_place N m2 p = some (m2, I ((a2 : Nat) : Int)) := by
    unfold hm_Fr_place hb_Fr_place_0
    rw [I_F' e21', show I ((j + 1 : Nat) : Int) - 1 = I ((j : Nat) : Int) by rw [lit1, I_sub]; congr 1; omega, show (4 : Int32) = I 4 from rfl, of_e (y := ((j : Nat) : Int)) (a := j) (z := 4) (k := 4) (j := j) e21' (by omega) rfl (Nat.le_refl _) rfl (by omega), bnd_so, n3']
  rw [pe, bnd_so, wi_e, lt_e, bnd_so, bnd_so, bnd_so]
  refine ret_r (W := W) (W0 := W0) (B := nb (j + 1)) (j := j + 1) hpp r11 pl.2.2.1.2.1 (by omega) f2 f3 h100 g4 ?_
  rw [lit0, decE (by omega) (by omega) (by omega) (by omega), decide_eq_false (by omega), br_f]
  generalize hw4 : wa (wa (wa (wa w 92 p ((W : Nat) : Int)) 92 p ((W0 : Nat) : Int)) 94 p ((nb (j + 1) : Nat) : Int)) 95 p ((j + 1 : Nat) : Int) = w4
  have x33 : F w4 133 = ((p : Nat) : Int) := by rw [← hw4]; exact r11
  have x92 : A w4 92 p = ((W0 : Nat) : Int) := by rw [← hw4, wa_rne (by omega), wa_rne (by omega), wa_sm (by omega) (by omega)]
  have x94 : A w4 94 p = ((nb (j + 1) : Nat) : Int) := by rw [← hw4, wa_rne (by omega), wa_sm (by omega) (by omega)]
  have x95 : A w4 95 p = ((j + 1 : Nat) : Int) := by rw [← hw4, wa_sm (by omega) (by omega)]
  have wR : ∀ K, K ≠ 92 → K ≠ 94 → K ≠ 95 → w4.2.2.1 K = w.2.2.1 K := fun K h1 h2 h3 => by rw [← hw4, wa_21 h3, wa_21 h2, wa_21 h1, wa_21 h1]
  have wJ : w4.2.2.2 = w.2.2.2 := by rw [← hw4]; rfl
  have w1 : w4.1 = w.1 := by rw [← hw4]; rfl
  refine rb_bnd (pk_mo (put_r (N := N) (x := w.2.2.2 91 (46000 * p + W)) hpp x33 x92 (by omega)) (fun w5 _ e => ?_))
  subst e
  show PP Q _ (K2 (wa (wj w4 91 (46000 * p + W0) (w.2.2.2 91 (46000 * p + W))) 92 p ((W0 + 1 : Nat) : Int)))
  have pl1 : PLs b p m1 w4 U (nb (j + 1)) W0 Y := by
    obtain ⟨k1, hk1⟩ : ∃ k1, W + 1 = W0 + k1 := ⟨W + 1 - W0, by omega⟩
    rw [hk1, hB] at pl
    have q := PLs_forget (PLs_drop pl (by omega)) (by omega)
    refine PLs_cg q (fun k hk => ?_) (fun i _ => by rw [m12]; rfl) (fun i _ => by rw [m12]; rfl) (fun i _ => by rw [m12]; rfl) (fun i _ => by rw [m12]; rfl) (fun K hK => ?_) (fun i _ => by rw [wJ]; rfl) (fun i _ => by rw [wJ]; rfl) (fun i _ => by rw [wJ]; rfl) (fun i _ => by rw [wJ]; rfl)
    · simp only [List.mem_cons, List.not_mem_nil, or_false] at hk
      rw [← hm1, wi_1 (pq_inj (by omega))]
    · simp only [List.mem_cons, List.not_mem_nil, or_false] at hK
      apply Int32.toInt_inj.mp
      show A w4 K p = A (wa (wa w 92 p ((W0 : Nat) : Int)) 94 p ((nb (j + 1) : Nat) : Int)) K p
      rcases hK with rfl | rfl | rfl | rfl | rfl
      · rw [wa_rne (by omega), wa_rne (by omega)]; exact congrArg Int32.toInt (congrFun (wR 89 (by omega) (by omega) (by omega)) p)
      · rw [wa_rne (by omega), wa_rne (by omega)]; exact congrArg Int32.toInt (congrFun (wR 90 (by omega) (by omega) (by omega)) p)
      · rw [x92, wa_rne (by omega), wa_sm (by omega) (by omega)]
      · rw [x94, wa_sm (by omega) (by omega)]
      · rw [wa_rne (by omega), wa_rne (by omega)]; exact congrArg Int32.toInt (congrFun (wR 108 (by omega) (by omega) (by omega)) p)
  have rt : RTb b (m.2.2.2 (pq p 35) W) (w.2.2.2 91 (46000 * p + W)) := pl.2.2.1.2.2 W (by omega)
  have pl2 := PLs_push pl1 rt z1 z2 z3
  generalize hw5 : wa (wj w4 91 (46000 * p + W0) (w.2.2.2 91 (46000 * p + W))) 92 p ((W0 + 1 : Nat) : Int) = w5 at *
  generalize hm3 : wi m2 1105 ((a2 : Nat) : Int) = m3
  have vR : ∀ K, K ≠ 92 → K ≠ 94 → K ≠ 95 → w5.2.2.1 K = w.2.2.1 K := fun K h1 h2 h3 => by
    rw [← hw5, wa_21 h1]
    show w4.2.2.1 K = _
    exact wR K h1 h2 h3
  have v1 : w5.1 = w.1 := by rw [← hw5]; exact w1
  have vJ : ∀ K, K ≠ 91 → w5.2.2.2 K = w.2.2.2 K := fun K h => by
    rw [← hw5]
    show (wj w4 91 (46000 * p + W0) (w.2.2.2 91 (46000 * p + W))).2.2.2 K = _
    rw [wj_22 h, wJ]
  have v95 : A w5 95 p = ((j + 1 : Nat) : Int) := by
    rw [← hw5, wa_rne (by omega)]
    exact x95
  have vA : ∀ K i, K ≠ 92 → K ≠ 94 → K ≠ 95 → A w5 K i = A w K i := fun K i h1 h2 h3 => by show (w5.2.2.1 K i).toInt = _; rw [vR K h1 h2 h3]; rfl
  have pr : ∀ K, PRr K → w5.2.2.1 K = w.2.2.1 K := fun K h => vR K (by unfold PRr at h; omega) (by unfold PRr at h; omega) (by unfold PRr at h; omega)
  have hP : ∀ K, PRr K → A w5 K = A w K := fun K a => by funext i; show (w5.2.2.1 K i).toInt = _; rw [pr K a]; rfl
  have m3q : ∀ l, m3.1 (pq p l) = m2.1 (pq p l) := fun l => by rw [← hm3, wi_1 (fun c => pq_n (by omega) c.symm)]
  have m3s : ∀ l, l < 2000 → l ≠ 1105 → m3.1 l = m.1 l := fun l h0 h => by rw [← hm3, wi_1 h]; exact s2 l h0
  have m3f : ∀ l, l < 2000 → l ≠ 1105 → F m3 l = F m l := fun l h0 h => congrArg Int32.toInt (m3s l h0 h)
  have m3o : ∀ l, l ≠ 21 → l ≠ 24 → l ≠ 26 → l ≠ 45 → m3.1 (pq p l) = m.1 (pq p l) := fun l h1 h2 h3 h4 => ((m3q l).trans (q2 l h3 h4)).trans (q1 l h1 h2 h3)
  have m3A : m3.2.2.1 = m.2.2.1 := by rw [← hm3]; exact a30
  have mA : ∀ K i, A m3 K i = A m K i := fun K i => by show (m3.2.2.1 K i).toInt = _; rw [m3A]; rfl
  have h23 : A m3 23 = A m 23 := by funext i; exact mA 23 i
  have h30 : A m3 (pq p 30) = A m (pq p 30) := by funext i; exact mA _ i
  have h37 : A m3 (pq p 37) = A m (pq p 37) := by funext i; exact mA _ i
  have j34 : w5.2.2.2 34 = w.2.2.2 34 := vJ 34 (by omega)
  have fa3 : FAs m3 w5 p j nb Hs Os := by
    refine ⟨⟨by rw [show F m3 (pq p 21) = F m2 (pq p 21) from congrArg Int32.toInt (m3q 21)]; exact e21', v95, by omega⟩, fun r hr => ?_, fun r hr => ?_, ?_⟩
    · obtain ⟨y1, y2, ⟨y3, y4⟩, y5, y6, y7⟩ := f4 r (by omega)
      refine ⟨by rw [h30, vA 96 _ (by omega) (by omega) (by omega)]; exact y1, ?_, ⟨by rw [h30]; exact y3, by rw [vA 99 _ (by omega) (by omega) (by omega)]; exact y4⟩, by rw [h30, vA 100 _ (by omega) (by omega) (by omega)]; exact y5, by rw [vA 101 _ (by omega) (by omega) (by omega)]; exact y6, fun i x hx => ?_⟩
      · rw [vA 97 _ (by omega) (by omega) (by omega), h30]
        rcases y2 with y2 | ⟨k2, t2, k1, k3, k4⟩
        · exact Or.inl y2
        · exact Or.inr ⟨k2, t2, k1, by rw [hP 44 (by unfold PRr; omega)]; exact k3, by rw [hP 8 (by unfold PRr; omega)]; exact k4⟩
      · rw [mA]; exact y7 i x hx
    · obtain ⟨y1, a3, n3, y2, y3, f9, y4⟩ := f5 r (by omega)
      exact ⟨y1, a3, n3, by rw [h30]; exact y2, by rw [vA 98 _ (by omega) (by omega) (by omega)]; exact y3, f9, by rw [h23, ROs_eq pr, j34]; exact y4⟩
    · rw [show F m3 (pq p 24) = F m1 (pq p 24) from congrArg Int32.toInt ((m3q 24).trans (q2 24 (by omega) (by omega))), e24, n1]
  have ct3 : CTs m3 w5 p j nb Hs Os := by
    obtain ⟨nC, c1, c2, c3, c5, c4⟩ := id ct
    refine ⟨nC, (congrArg Int32.toInt (m3o 28 (by omega) (by omega) (by omega) (by omega))).trans c1, by rw [vA 106 _ (by omega) (by omega) (by omega)]; exact c2, c3, fun c hc => by rw [vA 102 _ (by omega) (by omega) (by omega), vA 102 _ (by omega) (by omega) (by omega), vA 105 _ (by omega) (by omega) (by omega), vA 105 _ (by omega) (by omega) (by omega)]; exact c5 c hc, fun c hc => ?_⟩
    obtain ⟨r, k, a3, nd, nn, k1, k2, k3, k4, k5, k6, k7, k8, k9, k10, f9, k11⟩ := c4 c hc
    have rl := hct nC c c1 hc
    rw [k3] at rl
    exact ⟨r, k, a3, nd, nn, by omega, by rw [h37]; exact k2, by rw [vA 102 _ (by omega) (by omega) (by omega)]; exact k3, by rw [h37]; exact k4, by rw [vA 105 _ (by omega) (by omega) (by omega)]; exact k5, k6, by rw [h37, vA 104 _ (by omega) (by omega) (by omega)]; exact k7, by rw [h37]; exact k8, by rw [vA 103 _ (by omega) (by omega) (by omega)]; exact k9, by rw [hP 25 (by unfold PRr; omega)]; exact k10, f9, by rw [h23, ROs_eq pr, j34]; exact k11⟩
  have pl3 : PLs b p m3 w5 U (nb (j + 1)) (W0 + 1) Y := by rw [← hm3]; exact PLs_pc pl2
  have gm : GGm p m m3 := by
    rw [← hm3]
    refine GGm.tr (GGm.tr ?_ (GGm_pu z1)) (GGm_reg (by omega))
    rw [← hm1]
    exact GGm.tr (GGm.tr (GGm_own (by omega)) (GGm_own (by omega))) (GGm_own (by omega))
  have gw : GGw p w w5 := by
    have g4 : GGw p w w4 := by
      rw [← hw4]
      exact GGw.tr (GGw.tr (GGw.tr (GGw_own (Or.inl ⟨by omega, rfl⟩)) (GGw_own (Or.inl ⟨by omega, rfl⟩))) (GGw_own (Or.inl ⟨by omega, rfl⟩))) (GGw_own (Or.inl ⟨by omega, rfl⟩))
    rw [← hw5]
    exact GGw.tr g4 (GGw_fg (FGw.put (j := j) (by omega)) (by omega))
  refine c m3 w5 a2 n2 pl3 ⟨⟨fa3, ct3⟩, ⟨?_, ?_⟩, ?_, ⟨(congrArg Int32.toInt (m3o 9 (by omega) (by omega) (by omega) (by omega))).trans r5, ?_⟩, Or.inl ⟨rfl, (m3f 1112 (by omega) (by omega)).trans h12, ?_⟩, ⟨(m3f 1108 (by omega) (by omega)).trans r8, (m3f 1109 (by omega) (by omega)).trans r9, ?_⟩, ?_, ?_, ?_⟩ gm gw (fun s => SC_ow s (fun l hl => m3o l (by omega) (by omega) (by omega) (by omega)) (by rw [m3A]) (fun K h1 h2 => vR K (by omega) (by omega) (by omega)))
  · rw [← hm3, wi_sm a2r.1 a2r.2]
  · rw [vA 98 _ (by omega) (by omega) (by omega)]; exact n4
  · rw [h23, ROs_eq pr, j34]; exact n5
  · rw [vA 109 _ (by omega) (by omega) (by omega)]; exact r6
  · show (w5.1 152).toInt = _
    rw [v1]; exact h152
  · show (w5.1 151).toInt = _
    rw [v1]; exact r10
  · show (w5.1 133).toInt = _
    rw [v1]; exact r11
  · rw [m3s 1106 (by omega) (by omega), v1]; exact r12
  · rw [m3s 1107 (by omega) (by omega), v1]; exact r13
/-- the first FUNCTION is done: it ENDS -/
theorem op_retE (hpp : p < 24) (hpr : p < PR) (pl : PLs b p m w U B (W + 1) Y) (ru : RUs m w p 0 nb Hs Os none a n) (hW : W + 1 ≤ 46000) (h100 : A w 100 (60 * p) = ((W0 : Nat) : Int)) (hee : F m 955 = ((ee : Nat) : Int) ∧ ee < 24) (hee' : F w 150 = ((ee' : Nat) : Int) ∧ ee' < 4000) (p4 : P (mk 1 4)) (p4' : P' (mk 1 4))
    (ke : ∀ w3, GGw p w w3 → (SCs p m w → SCs p m w3) → m.1 (pq p 5) = w3.2.2.1 90 p → RQs Fv P Fv' P' PR (enS m p (mk 1 4) p ee) (enR w3 p 0 ((p : Nat) : Int) (mk 1 4) ee') p 0 p (mk 1 4) → PP Q (K1 (enS m p (mk 1 4) p ee)) (K2 (wi (enR w3 p 0 ((p : Nat) : Int) (mk 1 4) ee') 151 1))) : PP Q (bnd (hm_Ma_flow N m p (I 35)) (fun u _ => K1 u)) (bnd (fm_M_one N w (I ((n : Nat) : Int)) (I 29)) (fun u _ => K2 u)) := by
  obtain ⟨⟨fa, ct⟩, ⟨r2, r3⟩, ⟨f0, cr⟩, ⟨r5, r6⟩, -, -, r11, -, -⟩ := id ru
  have cb := CR_b cr
  obtain ⟨⟨f1, f2, f3⟩, f4, -, -⟩ := id fa
  obtain ⟨-, -, ⟨-, g4⟩, -, -, -⟩ := f4 0 (Nat.le_refl _)
  rw [flo35, one_29, I_F' r2, show I ((a : Nat) : Int) + 1 = I ((a + 1 : Nat) : Int) from addN, Co_e (k := a + 1) rfl (by omega), bnd_so]
  refine l_bb (l_bb (r_bb ?_))
  unfold hm_Ma_returns hb_Ma_returns_0
  rw [I_F' f1, show decide ((1 : Int32) < I ((0 + 1 : Nat) : Int)) = false from rfl, br_f, show (4 : Int32) = I 4 from rfl, endsBy_e (by rw [r5]; omega) hee, bnd_so, bnd_so, bnd_so]
  refine ret_r (W := W) (W0 := W0) (B := nb 0) (j := 0) hpp r11 pl.2.2.1.2.1 (by omega) f2 f3 h100 g4 ?_
  rw [show decide (I ((0 : Nat) : Int) = 0) = true from rfl, br_t]
  generalize hw4 : wa (wa (wa (wa w 92 p ((W : Nat) : Int)) 92 p ((W0 : Nat) : Int)) 94 p ((nb 0 : Nat) : Int)) 95 p ((0 : Nat) : Int) = w4
  have x33 : F w4 133 = ((p : Nat) : Int) := by rw [← hw4]; exact r11
  have wR : ∀ K, K ≠ 92 → K ≠ 94 → K ≠ 95 → w4.2.2.1 K = w.2.2.1 K := fun K h1 h2 h3 => by rw [← hw4, wa_21 h3, wa_21 h2, wa_21 h1, wa_21 h1]
  have x109 : A w4 109 p ≠ 3 := by
    show (w4.2.2.1 109 p).toInt ≠ 3
    rw [wR 109 (by omega) (by omega) (by omega)]
    have : (w.2.2.1 109 p).toInt = 0 := r6
    omega
  have x150 : F w4 150 = ((ee' : Nat) : Int) := by rw [← hw4]; exact hee'.1
  rw [show (1 : Int32) = I 1 from rfl, show (4 : Int32) = I 4 from rfl, term_e, rb_bnd_so, lit0, ends_e hpp x33 x109 x150 hee'.2, rb_bnd_so]
  unfold fb_M_returns_83
  rw [bnd_so, bnd_so]
  have gw : GGw p w w4 := by
    rw [← hw4]
    exact GGw.tr (GGw.tr (GGw.tr (GGw_own (Or.inl ⟨by omega, rfl⟩)) (GGw_own (Or.inl ⟨by omega, rfl⟩))) (GGw_own (Or.inl ⟨by omega, rfl⟩))) (GGw_own (Or.inl ⟨by omega, rfl⟩))
  exact ke w4 gw (fun s => SC_ow s (fun _ _ => rfl) rfl (fun K h1 h2 => wR K (by omega) (by omega) (by omega))) (by rw [wR 90 (by omega) (by omega) (by omega)]; exact pl.1.2.2) (RQ_lit hpr hpp (nh_mk (by omega)) (fun c => by rw [so_mk (by omega) (by omega)] at c; omega) p4 p4')
end
