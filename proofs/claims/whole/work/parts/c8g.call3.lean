/-! a FUNCTION is called, both sides: a FRAME more -/
set_option maxRecDepth 100000
section
variable {β α : Type} {b : Int → Nat → Nat → Prop} {N p U B Y j a n ar f P0 : Nat} {m w : MS} {nb : Nat → Nat} {Hs Os : Nat → List Nat} {Q : MS → α → MS → β → Prop} {K1 : MS → Option (MS × α)} {K2 : MS → Option (MS × β)}
theorem op_callN (hpp : p < 24) (pl : PLs b p m w U B (P0 + ar) Y) (ru : RUs m w p j nb Hs Os none a n) (hW : P0 + ar ≤ 46000) (hB2 : B ≤ 2500) (hj1 : j + 1 < 60) (ft : FTs m w) (h442 : ((f : Nat) : Int) < F m 442) (hlt : F m 1106 < F m 1107) (ha : a + 3 < 24000) (c1 : A m 23 (a + 1) = ((f : Nat) : Int)) (c2 : A m 23 (a + 2) = ((ar : Nat) : Int)) (h26 : A w 26 n = ((ar : Nat) : Int)) (h27 : A w 27 n = ((f : Nat) : Int)) (h30 : A w 30 n = 0) (cr : ∃ g, CRs (A m 23) (ROs w) (w.2.2.2 34) g none (a + 4) (n + 1) (Hs j) (Os j))
    (k : ∀ m4 w4 e c, TRs m4 w4 p (j + 1) (upf nb (j + 1) B) (upf Hs (j + 1) []) (upf Os (j + 1) []) 0 0 e c → PLs b p m4 (wa w4 94 p ((B : Nat) : Int)) U B (P0 + ar) Y → GGm p (cbM m) m4 → GGw p (cbW w) w4 → (SCs p m w → SCs p m4 w4) → (w4.2.2.2 88 = w.2.2.2 88 ∧ w4.1 140 = w.1 140) → PP Q (K1 m4) (bnd (gg_M_choose N (rc_M_error N 19) N w4 1) (fun u _ => K2 u))) : PP Q (bnd (hm_Ma_flow N m p (I 25)) (fun u _ => K1 u)) (bnd (fm_M_one N w (I ((n : Nat) : Int)) (I 12)) (fun u _ => K2 u)) := by
  obtain ⟨⟨fa, ct⟩, ⟨r2, r3⟩, ⟨f0, cr0⟩, ⟨r5, r6⟩, r7, ⟨r8, r9, r10⟩, r11, r12, r13⟩ := id ru
  obtain ⟨h12, h152⟩ : F m 1112 = 0 ∧ F w 152 = 0 := by
    rcases r7 with ⟨_, c3, c4⟩ | ⟨_, _, _, c, _⟩
    · exact ⟨c3, c4⟩
    · cases c
  have cb := CR_b cr0
  obtain ⟨⟨f1, f2, f3⟩, f4, f5, f6⟩ := id fa
  obtain ⟨hf6, e, c, ft1, ft2, g1, g2, ft3⟩ := ft f h442
  have e24 := A_r m 29 f
  rw [ft1] at e24
  have ebd : e + 1 < 24000 := by
    cases g2 with
    | zero => exact ft3.elim
    | succ g2 => exact ft3.1
  have c24 := A_r w 50 f
  rw [ft2] at c24
  have hne : (wi w 166 0).1 165 ≠ (wi w 166 0).1 164 := by
    rw [wi_1 (by omega), wi_1 (by omega), ← r12, ← r13]
    intro c
    have := congrArg Int32.toInt c
    have h1 : F m 1106 = (m.1 1106).toInt := rfl
    have h2 : F m 1107 = (m.1 1107).toInt := rfl
    omega
  have hB : B = nb j + (Hs j ++ Os j).length := by
    have h1 := pl.2.1.1
    rw [f6] at h1
    omega
  -- there
  rw [flo25, I_F' r2, show I ((a : Nat) : Int) + 1 = I ((a + 1 : Nat) : Int) from addN, Co_e (k := a + 1) rfl (by omega), bnd_so, c1, callN_m hlt r2 ha f1 hj1 pl.2.1.1 pl.2.2.1.1 c2 hf6 h442 ft1, bnd_so, bnd_so]
  -- here
  rw [one_12]
  refine r_bb ?_
  refine call_12 (by omega) h26 h27 (by omega) ?_
  have x33 : F (wi w 166 0) 133 = ((p : Nat) : Int) := by rw [wi_ne (by omega)]; exact r11
  refine call_go (j1 := j) (tl := 0) hpp (by omega) x33 f2 f3 hne h30 (Or.inr ⟨rfl, hj1⟩) ?_
  have e165 : F (wi w 166 0) 165 = F w 165 := wi_ne (by omega)
  have e119 : F (wi w 166 0) 119 = F w 119 := wi_ne (by omega)
  rw [e165, e119, show A (wi w 166 0) 114 p = A w 114 p from rfl]
  generalize hw1 : wa (wa (wi (wi (wi w 166 0) 165 (F w 165 + 1)) 119 (F w 119 + 1)) 114 p (A w 114 p + 1)) 98 (60 * p + j) ((n + 1 : Nat) : Int) = w1
  have a1 : ∀ K i, K ≠ 114 → K ≠ 98 → A w1 K i = A w K i := fun K i h1 h2 => by rw [← hw1, wa_rne h2, wa_rne h1]; rfl
  have i1 : ∀ l, l ≠ 166 → l ≠ 165 → l ≠ 119 → w1.1 l = w.1 l := fun l h1 h2 h3 => by
    rw [← hw1]
    show (wi (wi (wi w 166 0) 165 (F w 165 + 1)) 119 (F w 119 + 1)).1 l = _
    rw [wi_1 h3, wi_1 h2, wi_1 h1]
  have i165 : w1.1 165 = I (F w 165 + 1) := by
    rw [← hw1]
    show (wi (wi (wi w 166 0) 165 (F w 165 + 1)) 119 (F w 119 + 1)).1 165 = _
    rw [wi_1 (by omega)]
    exact wi_s1
  have i166 : F w1 166 = 0 := by
    rw [← hw1]
    show F (wi (wi (wi w 166 0) 165 (F w 165 + 1)) 119 (F w 119 + 1)) 166 = 0
    rw [wi_ne (by omega), wi_ne (by omega), wi_sm (by omega) (by omega)]
  have j1J : w1.2.2.2 = w.2.2.2 := by rw [← hw1]; rfl
  have y33 : F w1 133 = ((p : Nat) : Int) := (congrArg Int32.toInt (i1 133 (by omega) (by omega) (by omega))).trans r11
  refine frN_r (f := ((f : Nat) : Int)) (P0 := P0) (B := B) (j := j) hpp rfl y33 i166 ((a1 92 p (by omega) (by omega)).trans pl.2.2.1.2.1) hW ((a1 94 p (by omega) (by omega)).trans pl.2.1.2.1) (by omega) ((a1 95 p (by omega) (by omega)).trans f2) hj1 (fun u fr r => ?_)
  generalize hw3 : frmW u p (j + 1) ((f : Nat) : Int) P0 B (P0 + ar) = w3
  have u95 : ∀ K i, A u K i = A (wa w1 95 p ((j + 1 + 1 : Nat) : Int)) K i := fun K i => FR.A fr (by simp)
  have uR : ∀ K, u.2.2.1 K = (wa w1 95 p ((j + 1 + 1 : Nat) : Int)).2.2.1 K := fun K => fr.2.2.1 K (by simp)
  have u1 : ∀ l, u.1 l = w1.1 l := fun l => fr.1 l (by simp)
  have uJ : u.2.2.2 = w.2.2.2 := by
    funext K
    by_cases c : K = 91
    · subst c
      funext i
      rw [r i, j1J]
    · rw [fr.2.2.2 K (by simpa using c)]
      show w1.2.2.2 K = _
      rw [j1J]
  have w3i : w3.1 = w1.1 := by
    rw [← hw3]
    funext l
    exact u1 l
  have w3J : w3.2.2.2 = w.2.2.2 := by rw [← hw3]; exact uJ
  have w3R : ∀ K, K ≠ 92 → K ≠ 94 → K ≠ 95 → K ≠ 96 → K ≠ 97 → K ≠ 98 → K ≠ 99 → K ≠ 100 → K ≠ 101 → K ≠ 114 → w3.2.2.1 K = w.2.2.1 K := fun K h1 h2 h3 h4 h5 h6 h7 h8 h9 h10 => by
    rw [← hw3]
    unfold frmW
    rw [wa_21 h9, wa_21 h2, wa_21 h7, wa_21 h8, wa_21 h5, wa_21 h4, wa_21 h1, uR, wa_21 h3, ← hw1, wa_21 h6, wa_21 h10]
    rfl
  have w3A : ∀ K i, 96 ≤ K → K ≤ 101 → i ≠ 60 * p + (j + 1) → ¬ (K = 98 ∧ i = 60 * p + j) → w3.2.2.1 K i = w.2.2.1 K i := fun K i h1 h2 h3 h4 => by
    rw [← hw3]
    unfold frmW
    rw [wa_at (fun c => h3 c.2), wa_at (by omega), wa_at (fun c => h3 c.2), wa_at (fun c => h3 c.2), wa_at (fun c => h3 c.2), wa_at (fun c => h3 c.2), wa_at (by omega), uR, wa_at (by omega), ← hw1, wa_at h4, wa_at (by omega)]
    rfl
  have w3a : ∀ K i, 96 ≤ K → K ≤ 101 → i ≠ 60 * p + (j + 1) → ¬ (K = 98 ∧ i = 60 * p + j) → A w3 K i = A w K i := fun K i h1 h2 h3 h4 => congrArg Int32.toInt (w3A K i h1 h2 h3 h4)
  have v101 : A w3 101 (60 * p + (j + 1)) = 0 := by rw [← hw3]; exact wa_sm (by omega) (by omega)
  have v94 : A w3 94 p = ((B : Nat) : Int) := by
    rw [← hw3]
    unfold frmW
    rw [wa_rne (by omega), wa_sm (by omega) (by omega)]
  have v99 : A w3 99 (60 * p + (j + 1)) = ((B : Nat) : Int) := by
    rw [← hw3]
    unfold frmW
    rw [wa_rne (by omega), wa_rne (by omega), wa_sm (by omega) (by omega)]
  have v100 : A w3 100 (60 * p + (j + 1)) = ((P0 : Nat) : Int) := by
    rw [← hw3]
    unfold frmW
    rw [wa_rne (by omega), wa_rne (by omega), wa_rne (by omega), wa_sm (by omega) (by omega)]
  have v97 : A w3 97 (60 * p + (j + 1)) = -1 := by
    rw [← hw3]
    unfold frmW
    rw [wa_rne (by omega), wa_rne (by omega), wa_rne (by omega), wa_rne (by omega), wa_sm (by omega) (by omega)]
  have v96 : A w3 96 (60 * p + (j + 1)) = ((f : Nat) : Int) := by
    rw [← hw3]
    unfold frmW
    rw [wa_rne (by omega), wa_rne (by omega), wa_rne (by omega), wa_rne (by omega), wa_rne (by omega), wa_sm (by omega) (by omega)]
  have v92 : A w3 92 p = ((P0 + ar : Nat) : Int) := by
    rw [← hw3]
    unfold frmW
    rw [wa_rne (by omega), wa_rne (by omega), wa_rne (by omega), wa_rne (by omega), wa_rne (by omega), wa_rne (by omega), wa_sm (by omega) (by omega)]
  have v95 : A w3 95 p = ((j + 1 + 1 : Nat) : Int) := by
    rw [← hw3]
    unfold frmW
    rw [wa_rne (by omega), wa_rne (by omega), wa_rne (by omega), wa_rne (by omega), wa_rne (by omega), wa_rne (by omega), wa_rne (by omega), u95, wa_sm (by omega) (by omega)]
  have v98 : A w3 98 (60 * p + j) = ((n + 1 : Nat) : Int) := by
    rw [← hw3]
    unfold frmW
    rw [wa_rne (by omega), wa_rne (by omega), wa_rne (by omega), wa_rne (by omega), wa_rne (by omega), wa_rne (by omega), wa_rne (by omega), u95, wa_rne (by omega), ← hw1, wa_sm (by omega) (by omega)]
  have v114 : w3.2.2.1 114 p = I (A w 114 p + 1) := by
    rw [← hw3]
    unfold frmW
    rw [wa_21 (by omega), wa_21 (by omega), wa_21 (by omega), wa_21 (by omega), wa_21 (by omega), wa_21 (by omega), wa_21 (by omega), uR, wa_21 (by omega), ← hw1, wa_21 (by omega)]
    show (if 114 = 114 then upd (w.2.2.1 114) p (I (A w 114 p + 1)) else w.2.2.1 114) p = _
    rw [if_pos rfl]
    exact if_pos rfl
  have z33 : F w3 133 = ((p : Nat) : Int) := by show (w3.1 133).toInt = _; rw [w3i]; exact y33
  have pr : ∀ K, PRr K → w3.2.2.1 K = w.2.2.1 K := fun K h => by
    unfold PRr at h
    exact w3R K (by omega) (by omega) (by omega) (by omega) (by omega) (by omega) (by omega) (by omega) (by omega) (by omega)
  have fne : decide (I ((f : Nat) : Int) = (-1 : Int32)) = false := by rw [m1I, decE (by omega) (by omega) (by omega) (by omega)]; exact decide_eq_false (by omega)
  rw [fne, br_f]
  refine rb_ck (fun _ => ?_)
  have v50 : A w3 50 f = ((c : Nat) : Int) := by show (w3.2.2.1 50 f).toInt = _; rw [pr 50 (by unfold PRr; omega)]; exact ft2
  rw [tnI (n := f) rfl (by omega), I_A' v50]
  refine clof_r (j := j + 1) (a := 0) (nbn := B) hpp z33 v95 hj1 v99 v101 ?_
  generalize hw4 : wi (wi (wi (wi w3 153 0) 155 ((c : Nat) : Int)) 154 ((c : Nat) : Int)) 156 ((B + 0 : Nat) : Int) = w4
  have w42 : w4.2 = w3.2 := by rw [← hw4]; rfl
  have w41 : ∀ l, l ≠ 153 → l ≠ 154 → l ≠ 155 → l ≠ 156 → w4.1 l = w3.1 l := fun l h1 h2 h3 h4 => by rw [← hw4, wi_1 h4, wi_1 h2, wi_1 h3, wi_1 h1]
  have w4a : ∀ K i, A w4 K i = A w3 K i := fun K i => by show (w4.2.2.1 K i).toInt = _; rw [w42]; rfl
  have w4i : ∀ l, l ≠ 153 → l ≠ 154 → l ≠ 155 → l ≠ 156 → l ≠ 166 → l ≠ 165 → l ≠ 119 → w4.1 l = w.1 l := fun l h1 h2 h3 h4 h5 h6 h7 => by rw [w41 l h1 h2 h3 h4, w3i]; exact i1 l h5 h6 h7
  have w4f : ∀ l, l ≠ 153 → l ≠ 154 → l ≠ 155 → l ≠ 156 → l ≠ 166 → l ≠ 165 → l ≠ 119 → F w4 l = F w l := fun l h1 h2 h3 h4 h5 h6 h7 => congrArg Int32.toInt (w4i l h1 h2 h3 h4 h5 h6 h7)
  have w4J : w4.2.2.2 = w.2.2.2 := by rw [w42]; exact w3J
  have pr4 : ∀ K, PRr K → w4.2.2.1 K = w.2.2.1 K := fun K h => by rw [w42]; exact pr K h
  have hP : ∀ K, PRr K → A w4 K = A w K := fun K a => by funext i; show (w4.2.2.1 K i).toInt = _; rw [pr4 K a]; rfl
  generalize hm4 : wi (opS (s30 (cnM m p) p (5 * j + 4) (I ((a + 4 : Nat) : Int))) p (j + 1) B P0 (I ((f : Nat) : Int)) (I ((e : Nat) : Int))) 1105 ((e : Nat) : Int) = m4
  have m4q : ∀ l, l ≠ 13 → l ≠ 21 → m4.1 (pq p l) = m.1 (pq p l) := fun l h1 h2 => by
    rw [← hm4, wi_1 (fun c => pq_n (by omega) c.symm)]
    show (wi (s30 (cnM m p) p (5 * j + 4) (I ((a + 4 : Nat) : Int))) (pq p 21) ((j + 1 + 1 : Nat) : Int)).1 (pq p l) = _
    rw [wi_1 (pq_inj h2)]
    exact cnM_q h1
  have m4g : ∀ l, l < 2000 → l ≠ 1105 → l ≠ 1106 → l ≠ 946 → m4.1 l = m.1 l := fun l h0 h1 h2 h3 => by
    rw [← hm4, wi_1 h1]
    show (wi (s30 (cnM m p) p (5 * j + 4) (I ((a + 4 : Nat) : Int))) (pq p 21) ((j + 1 + 1 : Nat) : Int)).1 l = _
    rw [wi_1 (pq_n h0)]
    exact cnM_1 h0 h2 h3
  have m4f : ∀ l, l < 2000 → l ≠ 1105 → l ≠ 1106 → l ≠ 946 → F m4 l = F m l := fun l h0 h1 h2 h3 => congrArg Int32.toInt (m4g l h0 h1 h2 h3)
  have m406 : m4.1 1106 = I (F m 1106 + 1) := by
    rw [← hm4, wi_1 (by omega)]
    show (wi (s30 (cnM m p) p (5 * j + 4) (I ((a + 4 : Nat) : Int))) (pq p 21) ((j + 1 + 1 : Nat) : Int)).1 1106 = _
    rw [wi_1 (pq_n (by omega))]
    exact cnM_06
  have m413 : m4.1 (pq p 13) = I (F m (pq p 13) + 1) := by
    rw [← hm4, wi_1 (fun c => pq_n (by omega) c.symm)]
    show (wi (s30 (cnM m p) p (5 * j + 4) (I ((a + 4 : Nat) : Int))) (pq p 21) ((j + 1 + 1 : Nat) : Int)).1 (pq p 13) = _
    rw [wi_1 (pq_inj (by omega))]
    exact cnM_13
  have m421 : F m4 (pq p 21) = ((j + 1 + 1 : Nat) : Int) := by
    rw [← hm4, wi_ne (fun c => pq_n (by omega) c.symm)]
    show F (wi (s30 (cnM m p) p (5 * j + 4) (I ((a + 4 : Nat) : Int))) (pq p 21) ((j + 1 + 1 : Nat) : Int)) (pq p 21) = _
    rw [wi_sm (by omega) (by omega)]
  have m4A : ∀ K, K ≠ pq p 30 → m4.2.2.1 K = m.2.2.1 K := fun K h => by
    rw [← hm4]
    show (opS (s30 (cnM m p) p (5 * j + 4) (I ((a + 4 : Nat) : Int))) p (j + 1) B P0 (I ((f : Nat) : Int)) (I ((e : Nat) : Int))).2.2.1 K = _
    unfold opS
    exact (if_neg h).trans ((if_neg h).trans ((if_neg h).trans ((if_neg h).trans ((if_neg h).trans (if_neg h)))))
  have m4J : m4.2.2.2 = m.2.2.2 := by rw [← hm4]; rfl
  have m4L : m4.2.1 = m.2.1 := by rw [← hm4]; rfl
  have m430 : ∀ i, A m4 (pq p 30) i = if i = 5 * (j + 1) + 4 then ((e : Nat) : Int) else if i = 5 * (j + 1) + 1 then 0 else if i = 5 * (j + 1) then ((f : Nat) : Int) else if i = 5 * (j + 1) + 3 then ((P0 : Nat) : Int) else if i = 5 * (j + 1) + 2 then ((B : Nat) : Int) else if i = 5 * j + 4 then ((a + 4 : Nat) : Int) else A m (pq p 30) i := fun i => by
    rw [← hm4]
    show A (opS (s30 (cnM m p) p (5 * j + 4) (I ((a + 4 : Nat) : Int))) p (j + 1) B P0 (I ((f : Nat) : Int)) (I ((e : Nat) : Int))) (pq p 30) i = _
    rw [opS_30 (by omega) (by omega), I_ti (by omega) (by omega), I_ti (by omega) (by omega), s30_a, I_ti (by omega) (by omega)]
    rfl
  have h23 : A m4 23 = A m 23 := by funext i; show (m4.2.2.1 23 i).toInt = _; rw [m4A 23 (pq_n (by omega))]; rfl
  have n32 : ∀ i, A m4 (pq p 32) i = A m (pq p 32) i := fun i => by show (m4.2.2.1 (pq p 32) i).toInt = _; rw [m4A _ (pq_inj (by omega))]; rfl
  have fa4 : FAs m4 w4 p (j + 1) (upf nb (j + 1) B) (upf Hs (j + 1) []) (upf Os (j + 1) []) := by
    refine ⟨⟨m421, by rw [w4a]; exact v95, hj1⟩, fun r hr => ?_, fun r hr => ?_, ?_⟩
    · by_cases cr' : r = j + 1
      · subst cr'
        rw [upf_s, upf_s, upf_s]
        refine ⟨?_, Or.inl ⟨by rw [w4a]; exact v97, ?_⟩, ⟨?_, by rw [w4a]; exact v99⟩, ?_, by rw [w4a]; exact v101, fun i x hx => by simp at hx⟩
        · rw [m430, if_neg (by omega), if_neg (by omega), if_pos rfl, w4a, v96]
        · rw [m430, if_neg (by omega), if_pos rfl]
        · rw [m430, if_neg (by omega), if_neg (by omega), if_neg (by omega), if_neg (by omega), if_pos rfl]
        · rw [m430, if_neg (by omega), if_neg (by omega), if_neg (by omega), if_pos rfl, w4a, v100]
      · rw [upf_n cr', upf_n cr', upf_n cr']
        obtain ⟨y1, y2, ⟨y3, y4⟩, y5, y6, y7⟩ := f4 r (by omega)
        have m30 : ∀ d, d < 4 → A m4 (pq p 30) (5 * r + d) = A m (pq p 30) (5 * r + d) := fun d hd => by rw [m430, if_neg (by omega), if_neg (by omega), if_neg (by omega), if_neg (by omega), if_neg (by omega), if_neg (by omega)]
        have wr : ∀ K, 96 ≤ K → K ≤ 101 → K ≠ 98 → A w4 K (60 * p + r) = A w K (60 * p + r) := fun K h1 h2 h3 => by rw [w4a]; exact w3a K _ h1 h2 (by omega) (by omega)
        refine ⟨by rw [show 5 * r = 5 * r + 0 from rfl, m30 0 (by omega), wr 96 (by omega) (by omega) (by omega)]; exact y1, ?_, ⟨by rw [m30 2 (by omega)]; exact y3, by rw [wr 99 (by omega) (by omega) (by omega)]; exact y4⟩, by rw [m30 3 (by omega), wr 100 (by omega) (by omega) (by omega)]; exact y5, by rw [wr 101 (by omega) (by omega) (by omega)]; exact y6, fun i x hx => by rw [n32]; exact y7 i x hx⟩
        rw [wr 97 (by omega) (by omega) (by omega), m30 1 (by omega)]
        rcases y2 with y2 | ⟨k2, t2, q1, q3, q4⟩
        · exact Or.inl y2
        · exact Or.inr ⟨k2, t2, q1, by rw [hP 44 (by unfold PRr; omega)]; exact q3, by rw [hP 8 (by unfold PRr; omega)]; exact q4⟩
    · by_cases cr' : r = j
      · subst cr'
        rw [upf_n (show r ≠ r + 1 by omega), upf_s, upf_n (show r ≠ r + 1 by omega), upf_n (show r ≠ r + 1 by omega)]
        obtain ⟨g, cr⟩ := cr
        refine ⟨hB, a + 4, n + 1, ?_, by rw [w4a]; exact v98, g, by rw [h23, ROs_eq pr4, w4J]; exact cr⟩
        rw [m430, if_neg (by omega), if_neg (by omega), if_neg (by omega), if_neg (by omega), if_neg (by omega), if_pos rfl]
      · rw [upf_n (show r ≠ j + 1 by omega), upf_n (show r + 1 ≠ j + 1 by omega), upf_n (show r ≠ j + 1 by omega), upf_n (show r ≠ j + 1 by omega)]
        obtain ⟨y1, a3, n3, y2, y3, f9, y4⟩ := f5 r (by omega)
        refine ⟨y1, a3, n3, ?_, by rw [w4a, w3a 98 _ (by omega) (by omega) (by omega) (by omega)]; exact y3, f9, by rw [h23, ROs_eq pr4, w4J]; exact y4⟩
        rw [m430, if_neg (by omega), if_neg (by omega), if_neg (by omega), if_neg (by omega), if_neg (by omega), if_neg (by omega)]
        exact y2
    · rw [upf_s, upf_s, upf_s, show F m4 (pq p 24) = F m (pq p 24) from congrArg Int32.toInt (m4q 24 (by omega) (by omega)), pl.2.1.1]
      simp
  have ct4 : CTs m4 w4 p (j + 1) (upf nb (j + 1) B) (upf Hs (j + 1) []) (upf Os (j + 1) []) := by
    obtain ⟨nC, c1, c2, c3, c5, c4⟩ := id ct
    have wc : ∀ K i, 102 ≤ K → K ≤ 106 → A w4 K i = A w K i := fun K i h1 h2 => by
      rw [w4a]
      show (w3.2.2.1 K i).toInt = _
      rw [w3R K (by omega) (by omega) (by omega) (by omega) (by omega) (by omega) (by omega) (by omega) (by omega) (by omega)]
      rfl
    have h37 : A m4 (pq p 37) = A m (pq p 37) := by funext i; show (m4.2.2.1 (pq p 37) i).toInt = _; rw [m4A _ (pq_inj (by omega))]; rfl
    refine ⟨nC, (congrArg Int32.toInt (m4q 28 (by omega) (by omega))).trans c1, by rw [wc 106 _ (by omega) (by omega)]; exact c2, c3, fun c hc => by rw [wc 102 _ (by omega) (by omega), wc 102 _ (by omega) (by omega), wc 105 _ (by omega) (by omega), wc 105 _ (by omega) (by omega)]; exact c5 c hc, fun c hc => ?_⟩
    obtain ⟨r, k, a3, nd, nn, k1, k2, k3, k4, k5, k6, k7, k8, k9, k10, f9, k11⟩ := c4 c hc
    have rn : r ≠ j + 1 := by omega
    exact ⟨r, k, a3, nd, nn, by omega, by rw [h37]; exact k2, by rw [wc 102 _ (by omega) (by omega)]; exact k3, by rw [h37, upf_n rn, upf_n rn]; exact k4, by rw [wc 105 _ (by omega) (by omega), upf_n rn, upf_n rn]; exact k5, by rw [upf_n rn]; exact k6, by rw [h37, wc 104 _ (by omega) (by omega)]; exact k7, by rw [h37]; exact k8, by rw [wc 103 _ (by omega) (by omega)]; exact k9, by rw [hP 25 (by unfold PRr; omega)]; exact k10, f9, by rw [h23, ROs_eq pr4, w4J, upf_n rn, upf_n rn]; exact k11⟩
  have pl4 : PLs b p m4 w4 U B (P0 + ar) Y := by
    refine PLs_cg pl (fun l hl => m4q l (by simp at hl; omega) (by simp at hl; omega)) (fun i _ => by rw [m4J]) (fun i _ => by rw [m4J]) (fun i _ => by rw [m4J]) (fun i _ => by rw [m4J]) (fun K hK => ?_) (fun i _ => by rw [w4J]) (fun i _ => by rw [w4J]) (fun i _ => by rw [w4J]) (fun i _ => by rw [w4J])
    simp only [List.mem_cons, List.not_mem_nil, or_false] at hK
    apply Int32.toInt_inj.mp
    show A w4 K p = A w K p
    rw [w4a]
    rcases hK with rfl | rfl | rfl | rfl | rfl
    · exact congrArg Int32.toInt (congrFun (w3R 89 (by omega) (by omega) (by omega) (by omega) (by omega) (by omega) (by omega) (by omega) (by omega) (by omega)) p)
    · exact congrArg Int32.toInt (congrFun (w3R 90 (by omega) (by omega) (by omega) (by omega) (by omega) (by omega) (by omega) (by omega) (by omega) (by omega)) p)
    · rw [v92]; exact pl.2.2.1.2.1.symm
    · rw [v94]; exact pl.2.1.2.1.symm
    · exact congrArg Int32.toInt (congrFun (w3R 108 (by omega) (by omega) (by omega) (by omega) (by omega) (by omega) (by omega) (by omega) (by omega) (by omega)) p)
  have gm : GGm p (cbM m) m4 := by
    rw [← hm4]
    exact GGm.tr (GGm.tr GGm_cn (GGm.tr GGm_s30 GGm_opS)) (GGm_reg (by omega))
  have gw : GGw p (cbW w) w4 := by
    have ow : ∀ r K i, K ≠ 92 → K ≠ 94 → K ≠ 95 → K ≠ 114 → (96 ≤ K → K ≤ 101 → r ≠ p → 60 * r ≤ i ∧ i < 60 * r + 60) → r ≠ p → w4.2.2.1 K i = w.2.2.1 K i := fun r K i h1 h2 h3 h4 h5 h6 => by
      rw [w42]
      by_cases c : 96 ≤ K ∧ K ≤ 101
      · have := h5 c.1 c.2 h6
        exact w3A K i c.1 c.2 (by omega) (by omega)
      · rw [w3R K h1 h2 h3 (by omega) (by omega) (by omega) (by omega) (by omega) (by omega) h4]
    have o1 : ∀ K i, (K = 92 ∨ K = 94 ∨ K = 95 ∨ K = 114) → i ≠ p → w4.2.2.1 K i = w.2.2.1 K i := fun K i h1 h2 => by
      rw [w42, ← hw3]
      unfold frmW
      rw [wa_at (by omega), wa_at (by omega), wa_at (by omega), wa_at (by omega), wa_at (by omega), wa_at (by omega), wa_at (by omega), uR, wa_at (by omega), ← hw1, wa_at (by omega), wa_at (by omega)]
      rfl
    have wi1 : ∀ l, l ≤ 132 ∨ l = 150 ∨ l = 164 ∨ l = 165 → w4.1 l = (cbW w).1 l := fun l hl => by
      rw [w41 l (by omega) (by omega) (by omega) (by omega), w3i, ← hw1]
      show (wi (wi (wi w 166 0) 165 (F w 165 + 1)) 119 (F w 119 + 1)).1 l = _
      unfold cbW
      by_cases c : l = 119
      · subst c
        rw [wi_s1, wi_1 (by omega), wi_s1]
      · by_cases c5 : l = 165
        · subst c5
          rw [wi_1 c, wi_s1, wi_s1]
        · rw [wi_1 c, wi_1 c5, wi_1 (by omega), wi_1 c5, wi_1 c]
    refine ⟨fun d hd => ⟨fun K i h => ?_, fun K h => ?_, fun i _ _ => ?_, by rw [w4J]; rfl, fun i _ _ => by rw [w4J]; rfl, fun i _ _ => by rw [w4J]; rfl, fun i _ _ => by rw [w4J]; rfl, fun i _ _ => by rw [w4J]; rfl⟩, ⟨fun K h => pr4 K h, by rw [w4J]; rfl, ?_, ?_, wi1 14 (by omega)⟩, wi1 150 (by omega), fun K h => ?_, by rw [w4J]; rfl, fun K h => ?_, fun l h => wi1 l (by omega)⟩
    · show w4.2.2.1 K i = w.2.2.1 K i
      by_cases c : K = 92 ∨ K = 94 ∨ K = 95 ∨ K = 114
      · refine o1 K i c ?_
        unfold OWi at h
        omega
      · refine ow d K i (by omega) (by omega) (by omega) (by omega) (fun h1 h2 _ => ?_) hd
        unfold OWi at h
        omega
    · exact ow d K d (by omega) (by omega) (by omega) (by omega) (fun h1 h2 _ => by omega) hd
    · exact ow d 131 i (by omega) (by omega) (by omega) (by omega) (fun h1 h2 _ => by omega) hd
    · show w4.2.2.1 12 = w.2.2.1 12
      rw [w42]
      exact w3R 12 (by omega) (by omega) (by omega) (by omega) (by omega) (by omega) (by omega) (by omega) (by omega) (by omega)
    · show w4.2.2.1 13 = w.2.2.1 13
      rw [w42]
      exact w3R 13 (by omega) (by omega) (by omega) (by omega) (by omega) (by omega) (by omega) (by omega) (by omega) (by omega)
    · show w4.2.2.1 K = w.2.2.1 K
      rw [w42]
      exact w3R K (by omega) (by omega) (by omega) (by omega) (by omega) (by omega) (by omega) (by omega) (by omega) (by omega)
    · show w4.2.2.1 K = w.2.2.1 K
      rw [w42]
      exact w3R K (by omega) (by omega) (by omega) (by omega) (by omega) (by omega) (by omega) (by omega) (by omega) (by omega)
  have sc4 : SCs p m w → SCs p m4 w4 := fun s => by
    obtain ⟨s1, s2, s3, s4, s5, s6⟩ := s
    have rr : ∀ K, 112 ≤ K → K ≤ 117 → K ≠ 114 → w4.2.2.1 K = w.2.2.1 K := fun K h1 h2 h3 => by
      rw [w42]
      exact w3R K (by omega) (by omega) (by omega) (by omega) (by omega) (by omega) (by omega) (by omega) (by omega) h3
    refine ⟨by rw [m4q 12 (by omega) (by omega), rr 113 (by omega) (by omega) (by omega)]; exact s1, ?_, by rw [m4q 11 (by omega) (by omega), rr 112 (by omega) (by omega) (by omega)]; exact s3, by rw [m4q 15 (by omega) (by omega), rr 117 (by omega) (by omega) (by omega)]; exact s4, by rw [m4q 29 (by omega) (by omega), rr 115 (by omega) (by omega) (by omega)]; exact s5, fun i hi => ?_⟩
    · rw [m413, w42, v114]
      congr 1
      show (m.1 (pq p 13)).toInt + 1 = (w.2.2.1 114 p).toInt + 1
      rw [s2]
    · rw [m4A _ (pq_inj (by omega)), rr 116 (by omega) (by omega) (by omega)]
      refine s6 i ?_
      rw [show F m (pq p 15) = F m4 (pq p 15) from (congrArg Int32.toInt (m4q 15 (by omega) (by omega))).symm]
      exact hi
  refine k m4 w4 e ((c : Nat) : Int) ⟨⟨⟨fa4, ct4⟩, ⟨(congrArg Int32.toInt (m4q 9 (by omega) (by omega))).trans r5, ?_⟩, Or.inl ⟨rfl, (m4f 1112 (by omega) (by omega) (by omega) (by omega)).trans h12, (w4f 152 (by omega) (by omega) (by omega) (by omega) (by omega) (by omega) (by omega)).trans h152⟩, ⟨(m4f 1108 (by omega) (by omega) (by omega) (by omega)).trans r8, (m4f 1109 (by omega) (by omega) (by omega) (by omega)).trans r9, (w4f 151 (by omega) (by omega) (by omega) (by omega) (by omega) (by omega) (by omega)).trans r10⟩, (w4f 133 (by omega) (by omega) (by omega) (by omega) (by omega) (by omega) (by omega)).trans r11, ?_, ?_⟩, ?_, ⟨?_, ?_, ?_⟩, fun c => ?_, ⟨?_, ?_⟩, g1, g2, ?_⟩ (PLs_94 pl4 (by omega)) gm gw sc4 ⟨by rw [w4J], by rw [w41 140 (by omega) (by omega) (by omega) (by omega), w3i]; exact i1 140 (by omega) (by omega) (by omega)⟩
  · show (w4.2.2.1 109 p).toInt = 0
    rw [w42, w3R 109 (by omega) (by omega) (by omega) (by omega) (by omega) (by omega) (by omega) (by omega) (by omega) (by omega)]
    exact r6
  · rw [m406, w41 165 (by omega) (by omega) (by omega) (by omega), w3i, i165]
    congr 1
    show (m.1 1106).toInt + 1 = (w.1 165).toInt + 1
    rw [r12]
  · rw [m4g 1107 (by omega) (by omega) (by omega) (by omega), w4i 164 (by omega) (by omega) (by omega) (by omega) (by omega) (by omega) (by omega)]
    exact r13
  · rw [← hm4, wi_sm (by omega) (by omega)]
  · rw [← hw4, wi_ne (by omega), wi_ne (by omega), wi_ne (by omega), wi_sm (by omega) (by omega)]
    rfl
  · rw [← hw4, wi_ne (by omega), wi_sm (by omega) (by omega)]
  · rw [upf_s, upf_s, upf_s, ← hw4, wi_sm (by omega) (by omega)]
    simp
  · omega
  · rw [upf_s]; exact List.nodup_nil
  · rw [upf_s]; exact List.nodup_nil
  · rw [upf_s, upf_s, h23, ROs_eq pr4, w4J]
    exact ft3
end
