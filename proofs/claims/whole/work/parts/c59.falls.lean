/-! what goes up falls to a catch -/
set_option maxRecDepth 100000
/-- back to a catch: there, here -/
def unS (m : MS) (p c r B0 W0 : Nat) : MS := wi (wi (wi (wi m (pq p 28) ((c : Nat) : Int)) (pq p 21) ((r + 1 : Nat) : Int)) (pq p 24) ((B0 : Nat) : Int)) (pq p 26) ((W0 : Nat) : Int)
def unR (w : MS) (p c r B0 W0 : Nat) : MS := wa (wa (wa (wa w 106 p ((c : Nat) : Int)) 95 p ((r + 1 : Nat) : Int)) 92 p ((W0 : Nat) : Int)) 94 p ((B0 : Nat) : Int)
/-- the names of FRAME r, fewer -/
def tkO (Os : Nat → List Nat) (r k : Nat) : Nat → List Nat := fun i => if i = r then (Os r).take k else Os i
section
variable {α β : Type} {b : Int → Nat → Nat → Prop} {N p k l U B W Y j a n c r B0 W0 a0 nd nn : Nat} {m w m2 w2 m3 w3 : MS} {t x : Int64} {nb : Nat → Nat} {Hs Os : Nat → List Nat} {y : Option (Nat × Nat × Nat)} {Q : MS → α → MS → β → Prop} {D : Option (MS × α)} {kn : Int} {S : SG_M_error}
theorem unwind_m (h28 : F m (pq p 28) = ((c + 1 : Nat) : Int)) (hc : c < 2000) (q0 : A m (pq p 37) (4 * c) = ((r + 1 : Nat) : Int)) (q1 : A m (pq p 37) (4 * c + 1) = ((B0 : Nat) : Int)) (q2 : A m (pq p 37) (4 * c + 2) = ((W0 : Nat) : Int)) (q3 : A m (pq p 37) (4 * c + 3) = ((a0 : Nat) : Int)) : PK (fun m2 z => m2 = unS m p c r B0 W0 ∧ z = I ((a0 : Nat) : Int)) (hm_Fr_unwind N m p) := by
  unfold hm_Fr_unwind hb_Fr_unwind_0
  have cm1 : I ((c + 1 : Nat) : Int) - 1 = I ((c : Nat) : Int) := by rw [lit1, I_sub]; congr 1; omega
  rw [I_F' h28, lit0, decE (by omega) (by omega) (by omega) (by omega), decide_eq_false (by omega), br_f, cm1, wi_e]
  refine pk_lt ?_
  have e28 : F (wi m (pq p 28) ((c : Nat) : Int)) (pq p 28) = ((c : Nat) : Int) := by rw [wi_sm (by omega) (by omega)]
  have m4 : I ((c : Nat) : Int) * 4 = I ((4 * c : Nat) : Int) := by rw [show (4 : Int32) = I 4 from rfl, I_mul]; congr 1; omega
  rw [I_F' e28, m4, show I ((4 * c : Nat) : Int) + 1 = I ((4 * c + 1 : Nat) : Int) from addN, show I ((4 * c : Nat) : Int) + 2 = I ((4 * c + 2 : Nat) : Int) from addN, show I ((4 * c : Nat) : Int) + 3 = I ((4 * c + 3 : Nat) : Int) from addN, tnI (n := 4 * c) rfl (by omega), tnI (n := 4 * c + 1) rfl (by omega), tnI (n := 4 * c + 2) rfl (by omega), tnI (n := 4 * c + 3) rfl (by omega)]
  refine pk_ck (fun _ => pk_lt ?_)
  rw [show (wi m (pq p 28) ((c : Nat) : Int)).2.2.1 (pq p 37) (4 * c) = I ((r + 1 : Nat) : Int) from I_A' q0, wi_e]
  refine pk_ck (fun _ => pk_lt ?_)
  rw [show (wi (wi m (pq p 28) ((c : Nat) : Int)) (pq p 21) ((r + 1 : Nat) : Int)).2.2.1 (pq p 37) (4 * c + 1) = I ((B0 : Nat) : Int) from I_A' q1, wi_e]
  refine pk_ck (fun _ => pk_lt ?_)
  rw [show (wi (wi (wi m (pq p 28) ((c : Nat) : Int)) (pq p 21) ((r + 1 : Nat) : Int)) (pq p 24) ((B0 : Nat) : Int)).2.2.1 (pq p 37) (4 * c + 2) = I ((W0 : Nat) : Int) from I_A' q2, wi_e]
  refine pk_ck (fun _ => pk_some ⟨rfl, ?_⟩)
  exact I_A' q3
theorem goes_c {K : MS → Unit → Option (MS × β)} (hpp : p < 24) (h152 : F w 152 = 0) (h3 : F w 133 = ((p : Nat) : Int)) (h106 : A w 106 p = ((c + 1 : Nat) : Int)) (hc : c < 1600) (q0 : A w 102 (1600 * p + c) = ((r : Nat) : Int)) (hr : r < 60) (q1 : A w 105 (1600 * p + c) = ((B0 : Nat) : Int)) (q2 : A w 104 (1600 * p + c) = ((W0 : Nat) : Int))
    (h : PP Q D (bnd (br (decide (I kn = 2)) (bnd (fm_M_put N (unR w p c r B0 W0) x) (fun u15 _ => fb_M_goesUp_205 N S () u15 (I ((1600 * p + c : Nat) : Int)))) (bnd (fm_M_hand N (unR w p c r B0 W0) (I ((p : Nat) : Int)) x) (fun u10 _ => bnd (fm_M_wants N u10 (u10.1 133) 3) (fun u11 r11 => br (decide (r11 = 0)) (bnd (fm_M_handNone N u11) (fun u13 _ => bnd (fm_M_noRoom N u13) (fun u14 _ => some (u14, ())))) (bnd (fm_M_handNone N u11) (fun u12 _ => br (decide (I kn = 0)) (fb_M_goesUp_197 N S () u12 (I ((1600 * p + c : Nat) : Int)) (u11.2.1 139) 7) (fb_M_goesUp_197 N S () u12 (I ((1600 * p + c : Nat) : Int)) (u11.2.1 139) 8))))))) K)) : PP Q D (bnd (fm_M_goesUp N S w (I kn) x) K) := by
  unfold fm_M_goesUp fb_M_goesUp_0
  have cm1 : I ((c + 1 : Nat) : Int) - 1 = I ((c : Nat) : Int) := by rw [lit1, I_sub]; congr 1; omega
  have ey : I ((p : Nat) : Int) * 1600 + I ((c : Nat) : Int) = I ((1600 * p + c : Nat) : Int) := by rw [show (1600 : Int32) = I 1600 from rfl, I_mul, I_add]; congr 1; omega
  have dz : decide (I ((c + 1 : Nat) : Int) = 0) = false := by rw [lit0, decE (by omega) (by omega) (by omega) (by omega)]; exact decide_eq_false (by omega)
  rw [I_F' h152, show decide (I 0 = 0) = true from rfl, br_t]
  refine rb_ck (fun _ => ?_)
  rw [I_F' h3, tnI (n := p) rfl (by omega), I_A' h106, dz, br_f, cm1]
  refine rb_ck (fun _ => rb_ck (fun _ => rb_lt ?_))
  rw [wa_e]
  have g3 : F (wa w 106 p ((c : Nat) : Int)) 133 = ((p : Nat) : Int) := h3
  have g106 : A (wa w 106 p ((c : Nat) : Int)) 106 p = ((c : Nat) : Int) := by rw [wa_sm (by omega) (by omega)]
  have g102 : A (wa w 106 p ((c : Nat) : Int)) 102 (1600 * p + c) = ((r : Nat) : Int) := by rw [wa_rne (by omega)]; exact q0
  rw [I_F' g3, tnI (n := p) rfl (by omega), I_A' g106, ey]
  refine rb_ck (fun _ => rb_lt (rb_ck (fun _ => rb_ck (fun _ => rb_lt ?_))))
  rw [tnI (n := 1600 * p + c) rfl (by omega), I_A' g102, show I ((r : Nat) : Int) + 1 = I ((r + 1 : Nat) : Int) from addN, wa_e]
  have g3' : F (wa (wa w 106 p ((c : Nat) : Int)) 95 p ((r + 1 : Nat) : Int)) 133 = ((p : Nat) : Int) := h3
  have g104 : A (wa (wa w 106 p ((c : Nat) : Int)) 95 p ((r + 1 : Nat) : Int)) 104 (1600 * p + c) = ((W0 : Nat) : Int) := by rw [wa_rne (by omega), wa_rne (by omega)]; exact q2
  rw [I_F' g3', tnI (n := p) rfl (by omega), I_A' g104]
  refine rb_ck (fun _ => rb_ck (fun _ => rb_lt ?_))
  rw [wa_e]
  have hW := A_r w 104 (1600 * p + c)
  rw [q2] at hW
  have g3'' : F (wa (wa (wa w 106 p ((c : Nat) : Int)) 95 p ((r + 1 : Nat) : Int)) 92 p ((W0 : Nat) : Int)) 133 = ((p : Nat) : Int) := h3
  have g105 : A (wa (wa (wa w 106 p ((c : Nat) : Int)) 95 p ((r + 1 : Nat) : Int)) 92 p ((W0 : Nat) : Int)) 105 (1600 * p + c) = ((B0 : Nat) : Int) := by rw [wa_rne (by omega), wa_rne (by omega), wa_rne (by omega)]; exact q1
  rw [I_F' g3'', tnI (n := p) rfl (by omega), I_A' g105]
  refine rb_ck (fun _ => rb_ck (fun _ => rb_lt ?_))
  rw [wa_e]
  have g3z : F (unR w p c r B0 W0) 133 = ((p : Nat) : Int) := h3
  have z : wa (wa (wa (wa w 106 p ((c : Nat) : Int)) 95 p ((r + 1 : Nat) : Int)) 92 p ((W0 : Nat) : Int)) 94 p ((B0 : Nat) : Int) = unR w p c r B0 W0 := rfl
  rw [z, I_F' g3z]
  exact h
/-- rows of catches rise -/
theorem ct_mono {f : Nat → Int} (h : ∀ c, c + 1 < n → f c ≤ f (c + 1)) : ∀ d c, c + d < n → f c ≤ f (c + d) := by
  intro d
  induction d with
  | zero => intro c _; exact Int.le_refl _
  | succ d ih =>
    intro c hc
    have h1 := ih c (by omega)
    have h2 := h (c + d) (by omega)
    rw [show c + d + 1 = c + (d + 1) by omega] at h2
    omega
/-- the catch that is uppermost -/
theorem CT_last (ct : CTs m w p j nb Hs Os) (hn : F m (pq p 28) = ((c + 1 : Nat) : Int)) : ∃ r k a nd nn : Nat, r ≤ j ∧ A m (pq p 37) (4 * c) = ((r + 1 : Nat) : Int) ∧ A w 102 (1600 * p + c) = ((r : Nat) : Int) ∧ A m (pq p 37) (4 * c + 1) = ((nb r + (Hs r).length + k : Nat) : Int) ∧ A w 105 (1600 * p + c) = ((nb r + (Hs r).length + k : Nat) : Int) ∧ k ≤ (Os r).length ∧ A m (pq p 37) (4 * c + 2) = A w 104 (1600 * p + c) ∧ A m (pq p 37) (4 * c + 3) = ((a : Nat) : Int) ∧ A w 103 (1600 * p + c) = ((nd : Nat) : Int) ∧ A w 25 nd = ((nn : Nat) : Int) ∧ ∃ f, CRs (A m 23) (ROs w) (w.2.2.2 34) f none a nn (Hs r) ((Os r).take k) := by
  obtain ⟨n', c1, c2, c3, c4, c5⟩ := ct
  exact c5 c (by omega)
/-- FRAMES behind a fall -/
theorem FA_fall (fa : FAs m w p j nb Hs Os) (hr : r ≤ j) (hk : k ≤ (Os r).length) : FAs (unS m p c r (nb r + (Hs r).length + k) W0) (unR w p c r (nb r + (Hs r).length + k) W0) p r nb Hs (tkO Os r k) := by
  obtain ⟨⟨f1, f2, f3⟩, f4, f5, f6⟩ := fa
  have hb : nb r + (Hs r).length + k ≤ nb j + (Hs j).length + (Os j).length := by
    have := nb_le ⟨⟨f1, f2, f3⟩, f4, f5, f6⟩ (j - r) r (by omega)
    omega
  have b24 := F_r m (pq p 24)
  rw [f6, List.length_append] at b24
  have am : ∀ K i, A (unS m p c r (nb r + (Hs r).length + k) W0) K i = A m K i := fun _ _ => rfl
  have aw : ∀ K i, K ≠ 92 → K ≠ 94 → K ≠ 95 → K ≠ 106 → (unR w p c r (nb r + (Hs r).length + k) W0).2.2.1 K i = w.2.2.1 K i := fun K i h1 h2 h3 h4 => ((wa_at (fun c => h2 c.1)).trans (wa_at (fun c => h1 c.1))).trans ((wa_at (fun c => h3 c.1)).trans (wa_at (fun c => h4 c.1)))
  have aW : ∀ K i, K ≠ 92 → K ≠ 94 → K ≠ 95 → K ≠ 106 → A (unR w p c r (nb r + (Hs r).length + k) W0) K i = A w K i := fun K i h1 h2 h3 h4 => congrArg Int32.toInt (aw K i h1 h2 h3 h4)
  have pr : ∀ K, PRr K → (unR w p c r (nb r + (Hs r).length + k) W0).2.2.1 K = w.2.2.1 K := fun K h => by funext i; exact aw K i (by unfold PRr at h; omega) (by unfold PRr at h; omega) (by unfold PRr at h; omega) (by unfold PRr at h; omega)
  refine ⟨⟨?_, ?_, by omega⟩, fun i hi => ?_, fun i hi => ?_, ?_⟩
  · show F (wi (wi (wi (wi m (pq p 28) _) (pq p 21) _) (pq p 24) _) (pq p 26) _) (pq p 21) = _
    show (if pq p 21 = pq p 26 then _ else if pq p 21 = pq p 24 then _ else if pq p 21 = pq p 21 then I ((r + 1 : Nat) : Int) else _).toInt = _
    rw [if_neg (pq_inj (by omega)), if_neg (pq_inj (by omega)), if_pos rfl]
    exact I_ti (by omega) (by omega)
  · show ((unR w p c r (nb r + (Hs r).length + k) W0).2.2.1 95 p).toInt = _
    unfold unR
    rw [wa_at (by omega), wa_at (by omega)]
    show A (wa (wa w 106 p ((c : Nat) : Int)) 95 p ((r + 1 : Nat) : Int)) 95 p = _
    rw [wa_sm (by omega) (by omega)]
  · obtain ⟨g1, g2, ⟨g3, g4⟩, g5, g6, g7⟩ := f4 i (by omega)
    refine ⟨by rw [am, aW 96 _ (by omega) (by omega) (by omega) (by omega)]; exact g1, ?_, ⟨by rw [am]; exact g3, by rw [aW 99 _ (by omega) (by omega) (by omega) (by omega)]; exact g4⟩, by rw [am, aW 100 _ (by omega) (by omega) (by omega) (by omega)]; exact g5, by rw [aW 101 _ (by omega) (by omega) (by omega) (by omega)]; exact g6, fun i2 x2 hx => ?_⟩
    · rw [am, aW 97 _ (by omega) (by omega) (by omega) (by omega)]
      rcases g2 with g2 | ⟨k2, t2, e1, e2, e3⟩
      · exact Or.inl g2
      · exact Or.inr ⟨k2, t2, e1, by rw [aW 44 _ (by omega) (by omega) (by omega) (by omega)]; exact e2, by rw [aW 8 _ (by omega) (by omega) (by omega) (by omega)]; exact e3⟩
    · rw [am]
      refine g7 i2 x2 ?_
      unfold tkO at hx
      by_cases ir : i = r
      · rw [if_pos ir] at hx
        subst ir
        rw [List.getElem?_append] at hx ⊢
        by_cases c2 : i2 < (Hs i).length
        · rw [if_pos c2] at hx ⊢; exact hx
        · rw [if_neg c2] at hx ⊢
          rw [List.getElem?_take] at hx
          by_cases c3 : i2 - (Hs i).length < k
          · rw [if_pos c3] at hx; exact hx
          · rw [if_neg c3] at hx; cases hx
      · rw [if_neg ir] at hx; exact hx
  · obtain ⟨g1, a, n, g2, g3, f, g4⟩ := f5 i (by omega)
    have ir : i ≠ r := by omega
    refine ⟨by unfold tkO; rw [if_neg ir]; exact g1, a, n, by rw [am]; exact g2, by rw [aW 98 _ (by omega) (by omega) (by omega) (by omega)]; exact g3, f, ?_⟩
    unfold tkO
    rw [if_neg ir, ROs_eq pr]
    exact g4
  · show (if pq p 24 = pq p 26 then _ else if pq p 24 = pq p 24 then I ((nb r + (Hs r).length + k : Nat) : Int) else _).toInt = _
    rw [if_neg (pq_inj (by omega)), if_pos rfl, I_ti (by omega) (by omega)]
    unfold tkO
    rw [if_pos rfl, List.length_append, List.length_take]
    congr 1
    omega
/-- catches behind a fall -/
theorem CT_fall (ct : CTs m w p j nb Hs Os) (hn : F m (pq p 28) = ((c + 1 : Nat) : Int)) (hr : r ≤ j) (q1 : A w 102 (1600 * p + c) = ((r : Nat) : Int)) (q2 : A w 105 (1600 * p + c) = ((nb r + (Hs r).length + k : Nat) : Int)) (hk : k ≤ (Os r).length) : CTs (unS m p c r B0 W0) (unR w p c r B0 W0) p r nb Hs (tkO Os r k) := by
  obtain ⟨n', c1, c2, c3, c4, c5⟩ := ct
  have e : n' = c + 1 := by omega
  subst e
  have am : ∀ K i, A (unS m p c r B0 W0) K i = A m K i := fun _ _ => rfl
  have aw : ∀ K i, K ≠ 92 → K ≠ 94 → K ≠ 95 → K ≠ 106 → (unR w p c r B0 W0).2.2.1 K i = w.2.2.1 K i := fun K i h1 h2 h3 h4 => ((wa_at (fun c => h2 c.1)).trans (wa_at (fun c => h1 c.1))).trans ((wa_at (fun c => h3 c.1)).trans (wa_at (fun c => h4 c.1)))
  have aW : ∀ K i, K ≠ 92 → K ≠ 94 → K ≠ 95 → K ≠ 106 → A (unR w p c r B0 W0) K i = A w K i := fun K i h1 h2 h3 h4 => congrArg Int32.toInt (aw K i h1 h2 h3 h4)
  have pr : ∀ K, PRr K → (unR w p c r B0 W0).2.2.1 K = w.2.2.1 K := fun K h => by funext i; exact aw K i (by unfold PRr at h; omega) (by unfold PRr at h; omega) (by unfold PRr at h; omega) (by unfold PRr at h; omega)
  refine ⟨c, ?_, ?_, by omega, fun c' hc => ?_, fun c' hc => ?_⟩
  · show (if pq p 28 = pq p 26 then _ else if pq p 28 = pq p 24 then _ else if pq p 28 = pq p 21 then _ else if pq p 28 = pq p 28 then I ((c : Nat) : Int) else _).toInt = _
    rw [if_neg (pq_inj (by omega)), if_neg (pq_inj (by omega)), if_neg (pq_inj (by omega)), if_pos rfl]
    exact I_ti (by omega) (by omega)
  · show ((unR w p c r B0 W0).2.2.1 106 p).toInt = _
    unfold unR
    rw [wa_at (by omega), wa_at (by omega), wa_at (by omega)]
    show A (wa w 106 p ((c : Nat) : Int)) 106 p = _
    rw [wa_sm (by omega) (by omega)]
  · rw [aW 102 _ (by omega) (by omega) (by omega) (by omega), aW 102 _ (by omega) (by omega) (by omega) (by omega), aW 105 _ (by omega) (by omega) (by omega) (by omega), aW 105 _ (by omega) (by omega) (by omega) (by omega)]
    exact c4 c' (by omega)
  · obtain ⟨r', k', a, nd2, nn2, s1, s2, s3, s4, s5, s6, s7, s8, s9, s10, f, s11⟩ := c5 c' (by omega)
    have m1 := ct_mono (f := fun i => A w 102 (1600 * p + i)) (n := c + 1) (fun i hi => (c4 i hi).1) (c - c') c' (by omega)
    have m2 := ct_mono (f := fun i => A w 105 (1600 * p + i)) (n := c + 1) (fun i hi => (c4 i hi).2) (c - c') c' (by omega)
    rw [show c' + (c - c') = c by omega] at m1 m2
    have m1' : A w 102 (1600 * p + c') ≤ A w 102 (1600 * p + c) := m1
    have m2' : A w 105 (1600 * p + c') ≤ A w 105 (1600 * p + c) := m2
    rw [s3, q1] at m1'
    rw [s5, q2] at m2'
    have hr' : r' ≤ r := by omega
    refine ⟨r', k', a, nd2, nn2, hr', by rw [am]; exact s2, by rw [aW 102 _ (by omega) (by omega) (by omega) (by omega)]; exact s3, by rw [am]; exact s4, by rw [aW 105 _ (by omega) (by omega) (by omega) (by omega)]; exact s5, ?_, by rw [am, aW 104 _ (by omega) (by omega) (by omega) (by omega)]; exact s7, by rw [am]; exact s8, by rw [aW 103 _ (by omega) (by omega) (by omega) (by omega)]; exact s9, by rw [aW 25 _ (by omega) (by omega) (by omega) (by omega)]; exact s10, f, ?_⟩
    · unfold tkO
      by_cases e : r' = r
      · subst e
        rw [if_pos rfl, List.length_take]
        omega
      · rw [if_neg e]; exact s6
    · rw [ROs_eq pr]
      unfold tkO
      by_cases e : r' = r
      · subst e
        rw [if_pos rfl, List.take_take, Nat.min_eq_left (by omega)]
        exact s11
      · rw [if_neg e]; exact s11
/-- terms behind a fall -/
theorem PL_fall (pl : PLs b p (wi m (pq p 26) ((W : Nat) : Int)) w U B W Y) (hB : B0 ≤ B) (hW : W0 ≤ W) (hb : B ≤ 100000 ∧ W ≤ 100000) : PLs b p (unS m p c r B0 W0) (unR w p c r B0 W0) U B0 W0 Y := by
  obtain ⟨⟨⟨p1, p2, p3⟩, p4, p5⟩, ⟨p6, p7, p8⟩, ⟨p9, p10, p11⟩, p12, p13, p14⟩ := pl
  have im : ∀ k, k ≠ 21 → k ≠ 24 → k ≠ 26 → k ≠ 28 → (unS m p c r B0 W0).1 (pq p k) = (wi m (pq p 26) ((W : Nat) : Int)).1 (pq p k) := fun k h1 h2 h3 h4 => by
    show (if pq p k = pq p 26 then _ else if pq p k = pq p 24 then _ else if pq p k = pq p 21 then _ else if pq p k = pq p 28 then _ else m.1 (pq p k)) = (if pq p k = pq p 26 then _ else m.1 (pq p k))
    rw [if_neg (pq_inj h3), if_neg (pq_inj h2), if_neg (pq_inj h1), if_neg (pq_inj h4), if_neg (pq_inj h3)]
  have fm : ∀ k, k ≠ 21 → k ≠ 24 → k ≠ 26 → k ≠ 28 → F (unS m p c r B0 W0) (pq p k) = F (wi m (pq p 26) ((W : Nat) : Int)) (pq p k) := fun k h1 h2 h3 h4 => congrArg Int32.toInt (im k h1 h2 h3 h4)
  have aw : ∀ K i, K ≠ 92 → K ≠ 94 → K ≠ 95 → K ≠ 106 → (unR w p c r B0 W0).2.2.1 K i = w.2.2.1 K i := fun K i h1 h2 h3 h4 => ((wa_at (fun c => h2 c.1)).trans (wa_at (fun c => h1 c.1))).trans ((wa_at (fun c => h3 c.1)).trans (wa_at (fun c => h4 c.1)))
  have aW : ∀ K i, K ≠ 92 → K ≠ 94 → K ≠ 95 → K ≠ 106 → A (unR w p c r B0 W0) K i = A w K i := fun K i h1 h2 h3 h4 => congrArg Int32.toInt (aw K i h1 h2 h3 h4)
  refine ⟨⟨⟨by rw [fm 4 (by omega) (by omega) (by omega) (by omega)]; exact p1, by rw [aW 89 _ (by omega) (by omega) (by omega) (by omega)]; exact p2, p3⟩, p4, by rw [im 5 (by omega) (by omega) (by omega) (by omega), aw 90 _ (by omega) (by omega) (by omega) (by omega)]; exact p5⟩, ⟨?_, ?_, fun i hi => p8 i (by omega)⟩, ⟨?_, ?_, fun i hi => p11 i (by omega)⟩, by rw [fm 7 (by omega) (by omega) (by omega) (by omega)]; exact p12, by rw [aW 108 _ (by omega) (by omega) (by omega) (by omega)]; exact p13, p14⟩
  · show (if pq p 24 = pq p 26 then _ else if pq p 24 = pq p 24 then I ((B0 : Nat) : Int) else _).toInt = _
    rw [if_neg (pq_inj (by omega)), if_pos rfl]
    exact I_ti (by omega) (by omega)
  · show A (wa (wa (wa (wa w 106 p _) 95 p _) 92 p _) 94 p ((B0 : Nat) : Int)) 94 p = _
    rw [wa_sm (by omega) (by omega)]
  · show (if pq p 26 = pq p 26 then I ((W0 : Nat) : Int) else _).toInt = _
    rw [if_pos rfl]
    exact I_ti (by omega) (by omega)
  · show A (wa (wa (wa (wa w 106 p _) 95 p _) 92 p ((W0 : Nat) : Int)) 94 p ((B0 : Nat) : Int)) 92 p = _
    rw [wa_rne (by omega), wa_sm (by omega) (by omega)]
end
