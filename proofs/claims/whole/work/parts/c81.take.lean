/-! a message has been chosen: it is taken -/
set_option maxRecDepth 100000
section
variable {p k : Nat} {m : MS} {r : Nat → Int64} {t : Int64}
theorem GGm_j (hk : k < 100) : GGm p m (upJ m (pq p k) r) := ⟨fun d hd l hl => ⟨rfl, rfl, rfl, if_neg (fun c => hd (pq_e hl hk c).1)⟩, ⟨rfl, rfl, rfl, rfl⟩, rfl, rfl, rfl, fun _ _ => rfl, fun _ _ => rfl⟩
theorem GGm_l (hk : k < 100) : GGm p m (wl m (pq p k) t) := ⟨fun d hd l hl => ⟨rfl, if_neg (fun c => hd (pq_e hl hk c).1), rfl, rfl⟩, ⟨rfl, rfl, rfl, rfl⟩, rfl, rfl, rfl, fun _ _ => rfl, fun _ _ => rfl⟩
end
section
variable {α β : Type} {b : Int → Nat → Nat → Prop} {N p U B W Y j a k n tr : Nat} {m w m2 w2 w0 : MS} {nb : Nat → Nat} {Hs Os : Nat → List Nat} {Q : MS → α → MS → β → Prop} {D : Option (MS × α)} {K : MS → Unit → Option (MS × β)} {K1 : MS → Option (MS × α)} {K2 : MS → Option (MS × β)}
/-- those behind it move up, here -/
theorem cho_lp (hpp : p < 24) (h133 : F w0 133 = ((p : Nat) : Int)) (h108 : A w0 108 p = ((Y : Nat) : Int)) (hY : Y < 30) (kk : ∀ u G, FR [] [] [] [107] w0 u → (∀ q, u.2.2.2 107 q = if 30 * p + tr ≤ q ∧ q < 30 * p + Y then w0.2.2.2 107 (q + 1) else w0.2.2.2 107 q) → PP Q D (bnd (fb_M_chosen_148 N G u) K)) : ∀ (d M : Nat) (u : MS) (i : Nat), i + d = Y → tr ≤ i → FR [] [] [] [107] w0 u → (∀ q, u.2.2.2 107 q = if 30 * p + tr ≤ q ∧ q < 30 * p + i then w0.2.2.2 107 (q + 1) else w0.2.2.2 107 q) → PP Q D (bnd (gg_M_chosen N M u (I ((i : Nat) : Int))) K) := by
  intro d
  induction d with
  | zero =>
    intro M u i hi ht f r
    have : i = Y := by omega
    subst this
    cases M with
    | zero => exact pp_nr
    | succ M =>
    show PP Q D (bnd (fb_M_chosen_99 N (gg_M_chosen N M) u (I ((i : Nat) : Int))) K)
    unfold fb_M_chosen_99
    have x3 : F u 133 = ((p : Nat) : Int) := by rw [FR.F f (by simp)]; exact h133
    have x8 : A u 108 p = ((i : Nat) : Int) := by rw [FR.A f (by simp)]; exact h108
    refine rb_ck (fun _ => ?_)
    rw [I_F' x3, tnI (n := p) rfl (by omega), I_A' x8, decI (by omega) (by omega) (by omega) (by omega), decide_eq_true (by omega), br_t]
    exact kk u _ f r
  | succ d ih =>
    intro M u i hi ht f r
    cases M with
    | zero => exact pp_nr
    | succ M =>
    show PP Q D (bnd (fb_M_chosen_99 N (gg_M_chosen N M) u (I ((i : Nat) : Int))) K)
    unfold fb_M_chosen_99
    have x3 : F u 133 = ((p : Nat) : Int) := by rw [FR.F f (by simp)]; exact h133
    have x8 : A u 108 p = ((Y : Nat) : Int) := by rw [FR.A f (by simp)]; exact h108
    refine rb_ck (fun _ => ?_)
    rw [I_F' x3, tnI (n := p) rfl (by omega), I_A' x8, decI (by omega) (by omega) (by omega) (by omega), decide_eq_false (by omega), br_f]
    have i0 : (I ((p : Nat) : Int) * 30 + I ((i : Nat) : Int)).toNatClampNeg = 30 * p + i := by
      rw [show (30 : Int32) = I 30 from rfl, I_mul, I_add]
      exact tnI (n := 30 * p + i) (by omega) (by omega)
    have i1 : (I ((p : Nat) : Int) * 30 + I ((i : Nat) : Int) + 1).toNatClampNeg = 30 * p + i + 1 := by
      rw [show (30 : Int32) = I 30 from rfl, lit1, I_mul, I_add, I_add]
      exact tnI (n := 30 * p + i + 1) (by omega) (by omega)
    refine rb_ck (fun _ => rb_ck (fun _ => ?_))
    rw [i1, i0, wj_e, lt_e, show I ((i : Nat) : Int) + 1 = I ((i + 1 : Nat) : Int) from addN]
    refine ih M _ (i + 1) (by omega) (by omega) (FR.wj f (by simp)) (fun q => ?_)
    rw [wj_row]
    by_cases c : q = 30 * p + i
    · subst c
      rw [if_pos rfl, r _, if_neg (by omega), if_pos (by omega)]
    · rw [if_neg c, r q]
      by_cases c2 : 30 * p + tr ≤ q ∧ q < 30 * p + i
      · rw [if_pos c2, if_pos (by omega)]
      · rw [if_neg c2, if_neg (by omega)]
/-- a message is taken -/
theorem chosen_3 (hpp : p < 24) (pl : PLs b p m w U B W (Y + 1)) (ru : RUb m (wi w 152 0) p j nb Hs Os none) (hY : Y < 30) (h8 : F m (pq p 8) = ((tr : Nat) : Int)) (h158 : F w 158 = ((tr : Nat) : Int)) (ht : tr ≤ Y) (hpc : F m 1105 = ((a : Nat) : Int)) (ha : a + 1 < 24000) (h153 : F w 153 = 3) (h154 : F w 154 = ((k : Nat) : Int)) (hk : k < 100000) (h43 : A w 43 k = ((n : Nat) : Int)) (cr : ∃ f, CRs (A m 23) (ROs w) (w.2.2.2 34) f none (a + 1) n (Hs j) (Os j))
    (c : ∀ m3 w3, PLs b p m3 w3 U B W Y → RUs m3 w3 p j nb Hs Os none (a + 1) n → GGm p m m3 → GGw p w w3 → (SCs p m w → SCs p m3 w3) → PP Q (K1 m3) (K2 w3)) : PP Q (bnd (hm_Ma_flow N m p (I 33)) (fun u _ => K1 u)) (bnd (fm_M_chosen N w) (fun u _ => K2 u)) := by
  obtain ⟨⟨fa, ct⟩, ⟨r5, r6⟩, r7, ⟨r8, r9, r10⟩, r11, r12, r13⟩ := id ru
  have hj : j < 60 := fa.1.2.2
  have nr := A_r w 43 k
  rw [h43] at nr
  have r7' : F m 1112 = 0 := by
    rcases r7 with ⟨_, c3, _⟩ | ⟨_, _, _, c, _⟩
    · exact c3
    · cases c
  rw [flo33, I_F' hpc, show I ((a : Nat) : Int) + 1 = I ((a + 1 : Nat) : Int) from addN, Co_e (k := a + 1) rfl ha, bnd_so, takeM_e (tr := tr) (Y := Y) pl.2.2.2.1 h8 ht hY, bnd_so]
  have e5 : F (tkMs m p tr Y) 1105 = ((a : Nat) : Int) := by
    unfold tkMs
    show F (wi (wi (upJ m (pq p 6) _) (pq p 7) ((Y : Nat) : Int)) (pq p 8) 0) 1105 = _
    rw [wi_ne (pq_n (by omega)), wi_ne (pq_n (by omega))]
    exact hpc
  rw [lt_e, I_F' e5, show I ((a : Nat) : Int) + 1 = I ((a + 1 : Nat) : Int) from addN, wi_e, bnd_so, bnd_so]
  have e153 : F (wi w 152 0) 153 = 3 := by rw [wi_ne (by omega)]; exact h153
  have e154 : F (wi w 152 0) 154 = ((k : Nat) : Int) := by rw [wi_ne (by omega)]; exact h154
  have e158 : F (wi w 152 0) 158 = ((tr : Nat) : Int) := by rw [wi_ne (by omega)]; exact h158
  have e108 : A (wi w 152 0) 108 p = ((Y + 1 : Nat) : Int) := pl.2.2.2.2.1
  unfold fm_M_chosen fb_M_chosen_0
  rw [show upI w 152 0 = wi w 152 0 from rfl, lt_e, I_F' e153, show decide (I 3 = 0) = false from rfl, br_f, show decide (I 3 = 1) = false from rfl, br_f, show decide (I 3 = 3) = true from rfl, br_t]
  refine rb_ck (fun _ => rb_ck (fun _ => ?_))
  rw [I_F' r11, tnI (n := p) rfl (by omega), I_A' e108, show I ((Y + 1 : Nat) : Int) - 1 = I ((Y : Nat) : Int) by rw [lit1, I_sub]; congr 1; omega, wa_e, lt_e]
  generalize hw1 : wa (wi w 152 0) 108 p ((Y : Nat) : Int) = w1
  have w1F : ∀ l, F w1 l = F (wi w 152 0) l := fun l => by rw [← hw1]; rfl
  have w1i : ∀ l, w1.1 l = (wi w 152 0).1 l := fun l => by rw [← hw1]; rfl
  have w1R : ∀ K, K ≠ 108 → w1.2.2.1 K = w.2.2.1 K := fun K h => by rw [← hw1, wa_21 h]; rfl
  have w1J : w1.2.2.2 = w.2.2.2 := by rw [← hw1]; rfl
  have w18 : ∀ i, i ≠ p → w1.2.2.1 108 i = w.2.2.1 108 i := fun i h => by rw [← hw1]; exact wa_at (fun c => h c.2)
  have x33 : F w1 133 = ((p : Nat) : Int) := (w1F 133).trans r11
  have x154 : F w1 154 = ((k : Nat) : Int) := (w1F 154).trans e154
  have x158 : F w1 158 = ((tr : Nat) : Int) := (w1F 158).trans e158
  have x108 : A w1 108 p = ((Y : Nat) : Int) := by rw [← hw1, wa_sm (by omega) (by omega)]
  rw [I_F' x158]
  refine cho_lp (w0 := w1) (tr := tr) hpp x33 x108 hY (fun u G f r => ?_) (Y - tr) N w1 tr (by omega) (by omega) FR.rf (fun q => by rw [if_neg (by omega)])
  have uR : ∀ K, u.2.2.1 K = w1.2.2.1 K := fun K => f.2.2.1 K (by simp)
  have uJ : ∀ K, K ≠ 107 → u.2.2.2 K = w1.2.2.2 K := fun K h => f.2.2.2 K (by simpa using h)
  have u1 : ∀ l, u.1 l = w1.1 l := fun l => f.1 l (by simp)
  refine cho148 (j := j) (k := k) (n := n) hpp (by rw [FR.F f (by simp)]; exact x33) (by show (u.2.2.1 95 p).toInt = _; rw [uR, w1R 95 (by omega)]; exact fa.1.2.1) hj (by rw [FR.F f (by simp)]; exact x154) hk (by show (u.2.2.1 43 k).toInt = _; rw [uR, w1R 43 (by omega)]; exact h43) ?_
  generalize hw3 : wa u 98 (60 * p + j) ((n : Nat) : Int) = w3
  generalize hm3 : wi (tkMs m p tr Y) 1105 ((a + 1 : Nat) : Int) = m3
  have w3A : ∀ K i, K ≠ 108 → ¬ (K = 98 ∧ i = 60 * p + j) → w3.2.2.1 K i = w.2.2.1 K i := fun K i h1 h2 => by rw [← hw3, wa_at h2, uR, w1R K h1]
  have w3R : ∀ K, K ≠ 108 → K ≠ 98 → w3.2.2.1 K = w.2.2.1 K := fun K h1 h2 => by rw [← hw3, wa_21 h2, uR, w1R K h1]
  have w38 : w3.2.2.1 108 = w1.2.2.1 108 := by rw [← hw3, wa_21 (by omega), uR]
  have pr : ∀ K, PRr K → w3.2.2.1 K = w.2.2.1 K := fun K h => w3R K (by unfold PRr at h; omega) (by unfold PRr at h; omega)
  have w3J : ∀ K, K ≠ 107 → w3.2.2.2 K = w.2.2.2 K := fun K h => by
    rw [← hw3]
    show u.2.2.2 K = _
    rw [uJ K h, w1J]
  have w37 : ∀ q, w3.2.2.2 107 q = if 30 * p + tr ≤ q ∧ q < 30 * p + Y then w.2.2.2 107 (q + 1) else w.2.2.2 107 q := fun q => by
    rw [← hw3]
    show u.2.2.2 107 q = _
    rw [r q, w1J]
  have w3F : ∀ l, l ≠ 152 → w3.1 l = w.1 l := fun l h => by
    rw [← hw3]
    show u.1 l = _
    rw [u1, w1i]
    exact wi_1 h
  have mq : ∀ l, l ≠ 7 → l ≠ 8 → m3.1 (pq p l) = m.1 (pq p l) := fun l h1 h2 => by
    rw [← hm3, wi_1 (fun c => pq_n (by omega) c.symm)]
    unfold tkMs
    show (wi (wi (upJ m (pq p 6) _) (pq p 7) ((Y : Nat) : Int)) (pq p 8) 0).1 (pq p l) = _
    rw [wi_1 (pq_inj h2), wi_1 (pq_inj h1)]
    rfl
  have mg : ∀ l, l < 2000 → l ≠ 1105 → m3.1 l = m.1 l := fun l h0 h => by
    rw [← hm3, wi_1 h]
    unfold tkMs
    show (wi (wi (upJ m (pq p 6) _) (pq p 7) ((Y : Nat) : Int)) (pq p 8) 0).1 l = _
    rw [wi_1 (pq_n h0), wi_1 (pq_n h0)]
    rfl
  have m3A : m3.2.2.1 = m.2.2.1 := by rw [← hm3]; rfl
  have m3J : ∀ K, K ≠ pq p 6 → m3.2.2.2 K = m.2.2.2 K := fun K h => by rw [← hm3]; exact if_neg h
  have m36 : ∀ i, m3.2.2.2 (pq p 6) i = if tr ≤ i ∧ i < tr + (Y - tr) then m.2.2.2 (pq p 6) (tr + 1 + (i - tr)) else m.2.2.2 (pq p 6) i := fun i => by
    rw [← hm3]
    show (if pq p 6 = pq p 6 then va_cpy (m.2.2.2 (pq p 6)) (m.2.2.2 (pq p 6)) (tr + 1) tr (Y - tr) else m.2.2.2 (pq p 6)) i = _
    rw [if_pos rfl]
    rfl
  have m37 : F m3 (pq p 7) = ((Y : Nat) : Int) := by
    rw [← hm3, wi_ne (fun c => pq_n (by omega) c.symm)]
    unfold tkMs
    show F (wi (wi (upJ m (pq p 6) _) (pq p 7) ((Y : Nat) : Int)) (pq p 8) 0) (pq p 7) = _
    rw [wi_ne (pq_inj (by omega)), wi_sm (by omega) (by omega)]
  have h23 : A m3 23 = A m 23 := by funext i; show (m3.2.2.1 23 i).toInt = _; rw [m3A]; rfl
  have fc3 : FAs m3 w3 p j nb Hs Os ∧ CTs m3 w3 p j nb Hs Os := FC_w (w := w) ⟨fa, ct⟩ (fun l h => mq l (by omega) (by omega)) (fun l _ => by rw [m3A]) (by rw [m3A]) (fun K h => by rw [w3R K (by omega) (by omega)]) (fun K r h1 h2 h3 h4 => w3A K _ (by omega) (by omega)) (fun K c h1 h2 _ => by rw [w3R K (by omega) (by omega)]) pr (w3J 34 (by omega))
  have pl3 : PLs b p m3 w3 U B W Y := by
    obtain ⟨⟨⟨q1, q2, q3⟩, q4, q5⟩, ⟨q6, q7, q8⟩, ⟨q9, q10, q11⟩, q12, q13, q14⟩ := pl
    have hh : hp w3 p = hp w p := by funext i; show w3.2.2.2 88 _ = _; rw [w3J 88 (by omega)]; rfl
    have nA : ∀ K i, K ≠ 108 → K ≠ 98 → A w3 K i = A w K i := fun K i h1 h2 => by show (w3.2.2.1 K i).toInt = _; rw [w3R K h1 h2]; rfl
    have mF : ∀ l, l ≠ 7 → l ≠ 8 → F m3 (pq p l) = F m (pq p l) := fun l h1 h2 => congrArg Int32.toInt (mq l h1 h2)
    refine ⟨⟨⟨by rw [mF 4 (by omega) (by omega)]; exact q1, by rw [nA 89 _ (by omega) (by omega)]; exact q2, q3⟩, by rw [m3J _ (pq_inj (by omega)), hh]; exact q4, by rw [mq 5 (by omega) (by omega), w3R 90 (by omega) (by omega)]; exact q5⟩, ⟨by rw [mF 24 (by omega) (by omega)]; exact q6, by rw [nA 94 _ (by omega) (by omega)]; exact q7, fun i hi => by rw [m3J _ (pq_inj (by omega)), w3J 93 (by omega)]; exact q8 i hi⟩, ⟨by rw [mF 26 (by omega) (by omega)]; exact q9, by rw [nA 92 _ (by omega) (by omega)]; exact q10, fun i hi => by rw [m3J _ (pq_inj (by omega)), w3J 91 (by omega)]; exact q11 i hi⟩, m37, ?_, fun i hi => ?_⟩
    · show (w3.2.2.1 108 p).toInt = _
      rw [w38]
      exact x108
    · rw [m36, w37]
      by_cases c1 : tr ≤ i
      · rw [if_pos (by omega), if_pos (by omega), show tr + 1 + (i - tr) = i + 1 by omega]
        exact q14 (i + 1) (by omega)
      · rw [if_neg (by omega), if_neg (by omega)]
        exact q14 i (by omega)
  have gm : GGm p m m3 := by
    rw [← hm3]
    exact GGm.tr (GGm.tr (GGm.tr (GGm.tr (GGm_j (by omega)) (GGm_own (by omega))) (GGm_own (by omega))) (GGm_l (by omega))) (GGm_reg (by omega))
  have gw : GGw p w w3 := by
    refine ⟨fun d hd => ⟨fun K i h => w3A K i (OWi_k h).2.1 (fun c => ?_), fun K h => ?_, fun i _ _ => by rw [w3R 131 (by omega) (by omega)], by rw [w3J 111 (by omega)], fun i _ _ => by rw [w3J 88 (by omega)], fun i _ _ => by rw [w3J 91 (by omega)], fun i _ _ => by rw [w3J 93 (by omega)], fun i h1 h2 => ?_⟩, ⟨pr, w3J 34 (by omega), w3R 12 (by omega) (by omega), w3R 13 (by omega) (by omega), w3F 14 (by omega)⟩, w3F 150 (by omega), fun K h => w3R K (by omega) (by omega), w3J 148 (by omega), fun K h => w3R K (by omega) (by omega), fun k h => w3F k (by omega)⟩
    · obtain ⟨rfl, rfl⟩ := c
      exact hd (OWi_d (Or.inr (Or.inl ⟨⟨by omega, by omega⟩, by omega, by omega⟩)) h)
    · by_cases c : K = 108
      · subst c
        rw [w38]
        exact w18 d hd
      · rw [w3R K c (by omega)]
    · rw [w37, if_neg (fun c => hd (by omega))]
  refine c m3 w3 pl3 ⟨fc3, ⟨?_, ?_⟩, ?_, ⟨(congrArg Int32.toInt (mq 9 (by omega) (by omega))).trans r5, ?_⟩, Or.inl ⟨rfl, (congrArg Int32.toInt (mg 1112 (by omega) (by omega))).trans r7', ?_⟩, ⟨(congrArg Int32.toInt (mg 1108 (by omega) (by omega))).trans r8, (congrArg Int32.toInt (mg 1109 (by omega) (by omega))).trans r9, ?_⟩, ?_, ?_, ?_⟩ gm gw (fun s => SC_ow s (fun l hl => mq l (by omega) (by omega)) (by rw [m3A]) (fun K h1 h2 => w3R K (by omega) (by omega)))
  · rw [← hm3, wi_sm (by omega) (by omega)]
  · rw [← hw3, wa_sm nr.1 nr.2]
  · rw [h23, ROs_eq pr, w3J 34 (by omega)]; exact cr
  · show (w3.2.2.1 109 p).toInt = _
    rw [w3R 109 (by omega) (by omega)]; exact r6
  · rw [← hw3]
    show F u 152 = 0
    rw [FR.F f (by simp), w1F]
    exact wi_sm (by omega) (by omega)
  · exact (congrArg Int32.toInt (w3F 151 (by omega))).trans ((wi_ne (x := 0) (by omega)).symm.trans r10)
  · exact (congrArg Int32.toInt (w3F 133 (by omega))).trans ((wi_ne (x := 0) (by omega)).symm.trans r11)
  · rw [mg 1106 (by omega) (by omega), w3F 165 (by omega)]; exact r12.trans (wi_1 (by omega))
  · rw [mg 1107 (by omega) (by omega), w3F 164 (by omega)]; exact r13.trans (wi_1 (by omega))
end
