/-! AWAIT with after there: nodes 28 and 27 here -/
set_option maxRecDepth 100000
section
variable {Sf : MS → Int32 → Prop} {b : Int → Nat → Nat → Prop} {N p PR U B W B0 Y j a n r M1 M2 vk ee l : Nat} {m w : MS} {nb : Nat → Nat} {Hs Os : Nat → List Nat} {Q : MS → Int32 → MS → Int32 → Prop} {ow kw ow' kd' : Nat → Nat} {Fv Fv' : Int64 → Int64 → Prop} {P P' : Int64 → Prop}
theorem hr_ge {x y : Int32} (h1 : 0 ≤ x.toInt) (h2 : 0 ≤ y.toInt) : 0 ≤ (x.toInt64 + y.toInt64).toInt := by
  have a1 := x.toInt_lt
  have a2 := y.toInt_lt
  rw [Int64.toInt_add, Int32.toInt_toInt64, Int32.toInt_toInt64, Int.bmod_eq_of_le (by omega) (by omega)]
  omega
theorem awa_pp {K0 K2 : MS → Option (MS × Int32)} (hpp : p < 24) (hpr : p < PR) (pl : PLs b p m (wa w 94 p ((B : Nat) : Int)) U B (W + 1) Y) (ru : RUb m w p j nb Hs Os none) (hpc : F m 1105 = ((a : Nat) : Int)) (ha : a + 1 < 24000) (bd : B ≤ 2500 ∧ W < 46000) (hY : Y ≤ 30) (hvk : vk + 200 < 1000000000) (h956 : F m 955 ≤ F m 956) (q149 : F w 149 = 0) (q150 : F w 150 = 0) (hcl : m.1 944 = w.1 120) (hc0 : 0 ≤ F w 120) (c1 : A m 23 (a + 1) = 1) (hn : n < 100000) (hr : r < 100000) (h25 : A w 25 n = ((r : Nat) : Int)) (h27 : A w 27 n = (((Os j).length : Nat) : Int)) (r23 : A w 23 r = 27) (r31 : A w 31 r = ((n : Nat) : Int)) (r27 : A w 27 r = (((Os j).length : Nat) : Int)) (nd : (Os j).Nodup ∧ (Hs j).Nodup) (rc : ∃ g, RCs (A m 23) (ROs w) (w.2.2.2 34) (CRs (A m 23) (ROs w) (w.2.2.2 34) g) g (a + 2) r (Hs j) (Os j)) (hl : F m (pq p 45) = ((l : Nat) : Int)) (hl2 : W + 1 ≤ l ∧ l ≤ 1000000)
    (lb : LNB m p) (pt : PTQ m p U ow kw Fv P B (W + 1) Y) (cx : CTX Fv P m) (xc : CX w p (hp w p) U ow' kd' Fv' P' (W + 1) B0 Y) (hBB : B ≤ B0) (pb : PB P' PR) (ca : CTa m w p W) (hee : F m 955 = ((ee : Nat) : Int) ∧ ee < 24) (hN : 2200000 ≤ N)
    (hK0 : ∀ (u : MS) (Z : Option (MS × Int32)), GGw p w u → A u 98 (60 * p + j) = ((r : Nat) : Int) → A u 109 p = 0 → F u 151 = 0 → F u 133 = ((p : Nat) : Int) → A u 95 p = ((j + 1 : Nat) : Int) → F u 149 = 0 → F u 150 = 0 → A u 23 r = 27 → PP Q Z (bnd (fm_M_one N u (I ((r : Nat) : Int)) (I 27)) (fun u3 _ => K2 u3)) → PP Q Z (K0 u))
    (kW : ∀ M' vk' m3 w3, M' ≤ M1 → vk' ≤ vk + 61 → WTn m3 w3 p j nb Hs Os (a + 2) → PLs b p m3 w3 U B W Y → GGm p m m3 → GGw p w w3 → (SCs p m w → SCs p m3 w3) → PP Q (q195 Sf N (qgo Sf N M') m3 p (I ((vk' : Nat) : Int))) (K2 w3))
    (kR : ∀ M' vk' m3 w3 l q, M' ≤ M1 → vk' ≤ vk + 61 → RUs m3 w3 p j nb Hs Os none l q → PLs b p m3 w3 U B W Y → GGm p m m3 → GGw p w w3 → (SCs p m w → SCs p m3 w3) → PP Q (q195 Sf N (qgo Sf N M') m3 p (I ((vk' : Nat) : Int))) (K2 w3))
    (kT : ∀ M' vk' m3 w3 k, M' ≤ M1 → vk' ≤ vk + 1 → 0 < Y → TRs m3 w3 p j nb Hs Os 3 (a + 2) (a + 2 + 2) k → PLs b p m3 (wa w3 94 p ((B : Nat) : Int)) U B W Y → F m3 (pq p 8) = ((0 : Nat) : Int) → GGm p m m3 → GGw p w w3 → (SCs p m w → SCs p m3 w3) → (w3.2.2.2 88 = w.2.2.2 88 ∧ w3.1 140 = w.1 140) → PP Q (q195 Sf N (qgo Sf N M') m3 p (I ((vk' : Nat) : Int))) (bnd (gg_M_choose N (rc_M_error N 19) N w3 1) (fun u _ => K2 u)))
    (kk : ∀ b3 U3 W3 r k a0 nn m3 w3, PLs b3 p m3 w3 U3 (nb r + (Hs r).length + k) (W3 + 1) Y → RUs m3 w3 p r nb Hs (tkO Os r k) none a0 nn → GGm p m m3 → GGw p w w3 → (SCs p m w → SCs p m3 w3) → PP Q (q206 Sf N (qgo Sf N M1) m3 p (I ((vk : Nat) : Int))) (K0 w3))
    (ke : ∀ m3 w3 wr t3 x3, GGm p m m3 → GGw p w w3 → (SCs p m w → SCs p m3 w3) → m3.1 (pq p 5) = w3.2.2.1 90 p → (wr = 0 ∨ wr = 1 ∨ wr = 2) → RQs Fv P Fv' P' PR (enS m3 p t3 p ee) (enR w3 p wr ((p : Nat) : Int) x3 0) p wr p x3 → PP Q (q206 Sf N (qgo Sf N M1) (enS m3 p t3 p ee) p (I ((vk : Nat) : Int))) (K0 (wi (enR w3 p wr ((p : Nat) : Int) x3 0) 151 1))) : PP Q (bnd (hm_Ma_flow N m p (I 31)) (fun u _ => q195 Sf N (qgo Sf N M1) u p (I ((vk : Nat) : Int)))) (bnd (fm_M_one N w (I ((n : Nat) : Int)) (I 28)) (fun u _ => K0 u)) := by
  obtain ⟨⟨fa, ct⟩, ⟨r5, r6⟩, r7, ⟨r8, r9, r10⟩, r11, r12, r13⟩ := id ru
  obtain ⟨h12, h152⟩ : F m 1112 = 0 ∧ F w 152 = 0 := by
    rcases r7 with ⟨_, c3, c4⟩ | ⟨_, _, _, c, _⟩
    · exact ⟨c3, c4⟩
    · cases c
  have hj : j < 60 := fa.1.2.2
  obtain ⟨-, -, ⟨-, g4⟩, -, g6, -⟩ := fa.2.1 j (Nat.le_refl _)
  have hB : B = nb j + (Hs j).length + (Os j).length := by
    have h1 := pl.2.1.1
    rw [fa.2.2.2, List.length_append] at h1
    omega
  have w92 : A w 92 p = ((W + 1 : Nat) : Int) := by
    have := pl.2.2.1.2.1
    rw [wa_rne (by omega)] at this
    exact this
  have rt : RTb b (m.2.2.2 (pq p 35) W) (w.2.2.2 91 (46000 * p + W)) := pl.2.2.1.2.2 W (by omega)
  obtain ⟨k1, k2, k3⟩ := await1_m (N := N) hpc ha c1 pl.2.2.1.1 hl hl2 rfl
  -- the hour is known
  have fin : ∀ (hr' : Int64) (m2 : MS), (∀ l, l ≠ 8 → l ≠ 26 → m2.1 (pq p l) = m.1 (pq p l)) → (∀ l, l < 2000 → l ≠ 1105 → m2.1 l = m.1 l) → m2.2.2 = m.2.2 → F m2 (pq p 8) = ((0 : Nat) : Int) → F m2 (pq p 26) = ((W : Nat) : Int) → m2.2.1 (pq p 10) = hr' → F m2 1105 = ((a + 2 : Nat) : Int) → GGm p m m2 → (hr' = -1 ∨ 0 ≤ hr'.toInt) → PP Q (q195 Sf N (qgo Sf N M1) m2 p (I ((vk : Nat) : Int))) (K0 (wa (wj (wa (wa (wa w 98 (60 * p + j) ((n + 1 : Nat) : Int)) 92 p ((W : Nat) : Int)) 94 p ((nb j + (Hs j).length + (Os j).length : Nat) : Int)) 111 p hr') 98 (60 * p + j) ((r : Nat) : Int))) := fun hr' m2 mq mg mr m8 m26 mL mpc gm dl => by
    generalize hw2 : wa (wj (wa (wa (wa w 98 (60 * p + j) ((n + 1 : Nat) : Int)) 92 p ((W : Nat) : Int)) 94 p ((nb j + (Hs j).length + (Os j).length : Nat) : Int)) 111 p hr') 98 (60 * p + j) ((r : Nat) : Int) = w2
    have w2i : w2.1 = w.1 := by rw [← hw2]; rfl
    have w2F : ∀ l, F w2 l = F w l := fun l => by show (w2.1 l).toInt = _; rw [w2i]; rfl
    have wJ : ∀ K, K ≠ 111 → w2.2.2.2 K = w.2.2.2 K := fun K h => by
      rw [← hw2]
      show (wj (wa (wa (wa w 98 (60 * p + j) ((n + 1 : Nat) : Int)) 92 p ((W : Nat) : Int)) 94 p ((nb j + (Hs j).length + (Os j).length : Nat) : Int)) 111 p hr').2.2.2 K = _
      rw [wj_22 h]
      rfl
    have w111 : w2.2.2.2 111 p = hr' := by
      rw [← hw2]
      show (wj (wa (wa (wa w 98 (60 * p + j) ((n + 1 : Nat) : Int)) 92 p ((W : Nat) : Int)) 94 p ((nb j + (Hs j).length + (Os j).length : Nat) : Int)) 111 p hr').2.2.2 111 p = _
      rw [wj_row, if_pos rfl]
    have wat : ∀ K i, ¬ (K = 98 ∧ i = 60 * p + j) → ¬ (K = 92 ∧ i = p) → ¬ (K = 94 ∧ i = p) → w2.2.2.1 K i = w.2.2.1 K i := fun K i h1 h2 h3 => by
      rw [← hw2, wa_at h1]
      show (wa (wa (wa w 98 (60 * p + j) ((n + 1 : Nat) : Int)) 92 p ((W : Nat) : Int)) 94 p ((nb j + (Hs j).length + (Os j).length : Nat) : Int)).2.2.1 K i = _
      rw [wa_at h3, wa_at h2, wa_at h1]
    have wA : ∀ K i, ¬ (K = 98 ∧ i = 60 * p + j) → ¬ (K = 92 ∧ i = p) → ¬ (K = 94 ∧ i = p) → A w2 K i = A w K i := fun K i h1 h2 h3 => congrArg Int32.toInt (wat K i h1 h2 h3)
    have wR : ∀ K, K ≠ 98 → K ≠ 92 → K ≠ 94 → w2.2.2.1 K = w.2.2.1 K := fun K h1 h2 h3 => by funext i; exact wat K i (fun c => h1 c.1) (fun c => h2 c.1) (fun c => h3 c.1)
    have v98 : A w2 98 (60 * p + j) = ((r : Nat) : Int) := by rw [← hw2, wa_sm (by omega) (by omega)]
    have v92 : w2.2.2.1 92 p = I ((W : Nat) : Int) := by
      rw [← hw2, wa_21 (by omega)]
      show (wa (wa (wa w 98 (60 * p + j) ((n + 1 : Nat) : Int)) 92 p ((W : Nat) : Int)) 94 p ((nb j + (Hs j).length + (Os j).length : Nat) : Int)).2.2.1 92 p = _
      rw [wa_21 (by omega), wa_s1]
    have v94 : w2.2.2.1 94 p = I ((B : Nat) : Int) := by
      rw [← hw2, wa_21 (by omega)]
      show (wa (wa (wa w 98 (60 * p + j) ((n + 1 : Nat) : Int)) 92 p ((W : Nat) : Int)) 94 p ((nb j + (Hs j).length + (Os j).length : Nat) : Int)).2.2.1 94 p = _
      rw [wa_s1, hB]
    have pr : ∀ K, PRr K → w2.2.2.1 K = w.2.2.1 K := fun K h => wR K (by unfold PRr at h; omega) (by unfold PRr at h; omega) (by unfold PRr at h; omega)
    have mF : ∀ l, l < 2000 → l ≠ 1105 → F m2 l = F m l := fun l h0 h => congrArg Int32.toInt (mg l h0 h)
    have h23 : A m2 23 = A m 23 := by funext i; show (m2.2.2.1 23 i).toInt = _; rw [mr]; rfl
    have fc2 : FAs m2 w2 p j nb Hs Os ∧ CTs m2 w2 p j nb Hs Os := FC_w ⟨fa, ct⟩ (fun l h => mq l (by omega) (by omega)) (fun l _ => by rw [mr]) (by rw [mr]) (fun K h => wat K p (by omega) (by omega) (by omega)) (fun K q h1 h2 h3 h4 => wat K _ (by omega) (by omega) (by omega)) (fun K c h1 h2 _ => wat K _ (by omega) (by omega) (by omega)) pr (wJ 34 (by omega))
    have ru2 : RUb m2 w2 p j nb Hs Os none := ⟨fc2, ⟨(congrArg Int32.toInt (mq 9 (by omega) (by omega))).trans r5, (wA 109 p (by omega) (by omega) (by omega)).trans r6⟩, Or.inl ⟨rfl, (mF 1112 (by omega) (by omega)).trans h12, (w2F 152).trans h152⟩, ⟨(mF 1108 (by omega) (by omega)).trans r8, (mF 1109 (by omega) (by omega)).trans r9, (w2F 151).trans r10⟩, (w2F 133).trans r11, by rw [mg 1106 (by omega) (by omega), w2i]; exact r12, by rw [mg 1107 (by omega) (by omega), w2i]; exact r13⟩
    have pl2 : PLs b p m2 w2 U B W Y := PLs_cg (PLs_drop (W := W) (k := 1) pl (by omega)) (fun k hk => by
        by_cases c : k = 26
        · subst c
          rw [wi_s1]
          exact I_F' m26
        · rw [wi_1 (pq_inj c)]
          exact mq k (by simp at hk; omega) c) (fun i _ => by rw [mr]; rfl) (fun i _ => by rw [mr]; rfl) (fun i _ => by rw [mr]; rfl) (fun i _ => by rw [mr]; rfl) (fun K hK => by
        by_cases c : K = 92
        · subst c
          rw [v92, wa_s1]
        · by_cases c2 : K = 94
          · subst c2
            rw [v94, wa_21 (by omega), wa_s1]
          · rw [wa_21 c, wa_21 c2]
            exact wat K p (by simp at hK; omega) (by omega) (by omega)) (fun i _ => by rw [wJ 88 (by omega)]; rfl) (fun i _ => by rw [wJ 93 (by omega)]; rfl) (fun i _ => by rw [wJ 91 (by omega)]; rfl) (fun i _ => by rw [wJ 107 (by omega)]; rfl)
    have gw : GGw p w w2 := by
      rw [← hw2]
      have g1 : GGw p w (wa w 98 (60 * p + j) ((n + 1 : Nat) : Int)) := GGw_fg FGw.goto hj
      have g2 : GGw p w (wa (wa w 98 (60 * p + j) ((n + 1 : Nat) : Int)) 92 p ((W : Nat) : Int)) := GGw.tr g1 (GGw_fg (jj := j) FGw.w92 hj)
      have g3 : GGw p w (wa (wa (wa w 98 (60 * p + j) ((n + 1 : Nat) : Int)) 92 p ((W : Nat) : Int)) 94 p ((nb j + (Hs j).length + (Os j).length : Nat) : Int)) := GGw.tr g2 (GGw_own (Or.inl ⟨Or.inr (Or.inl rfl), rfl⟩))
      refine GGw.tr (w2 := wj (wa (wa (wa w 98 (60 * p + j) ((n + 1 : Nat) : Int)) 92 p ((W : Nat) : Int)) 94 p ((nb j + (Hs j).length + (Os j).length : Nat) : Int)) 111 p hr') (GGw.tr g3 ?_) (GGw_fg FGw.goto hj)
      exact ⟨fun d hd => ⟨fun _ _ _ => rfl, fun _ _ => rfl, fun _ _ _ => rfl, by rw [wj_row, if_neg hd], fun _ _ _ => by rw [wj_22 (by omega)], fun _ _ _ => by rw [wj_22 (by omega)], fun _ _ _ => by rw [wj_22 (by omega)], fun _ _ _ => by rw [wj_22 (by omega)]⟩, ⟨fun _ _ => rfl, wj_22 (by omega), rfl, rfl, rfl⟩, rfl, fun _ _ => rfl, wj_22 (by omega), fun _ _ => rfl, fun _ _ => rfl⟩
    have sc2 : SCs p m w → SCs p m2 w2 := fun s => SC_ow s (fun l hl => mq l (by omega) (by omega)) (by rw [mr]) (fun K h1 h2 => wR K (by omega) (by omega) (by omega))
    refine hK0 w2 _ gw v98 ((wA 109 p (by omega) (by omega) (by omega)).trans r6) ((w2F 151).trans r10) ((w2F 133).trans r11) ((wA 95 p (by omega) (by omega) (by omega)).trans fa.1.2.1) ((w2F 149).trans q149) ((w2F 150).trans q150) ((wA 23 r (by omega) (by omega) (by omega)).trans r23) ?_
    obtain ⟨g, rc⟩ := rc
    exact rcv_27 (K2 := fun u => K2 u) (sc := a + 2) hpp pl2 ru2 mpc m8 (by rw [mL, w111]; exact ⟨rfl, dl⟩) (by omega) hY hvk (by rw [mF 955 (by omega) (by omega), mF 956 (by omega) (by omega)]; exact h956) (by rw [mg 944 (by omega) (by omega), w2i]; exact hcl) (by rw [h23]; exact c1) hr (by rw [wA 31 r (by omega) (by omega) (by omega), r31]; omega) ((wA 23 r (by omega) (by omega) (by omega)).trans r23) ((wA 27 r (by omega) (by omega) (by omega)).trans r27) nd ⟨g, by rw [h23, ROs_eq pr, wJ 34 (by omega)]; exact rc⟩ (fun M' vk' m3 w3 q1 q2 a1 a2 a3 a4 a5 => kW M' vk' m3 w3 q1 q2 a1 a2 (GGm.tr gm a3) (GGw.tr gw a4) (fun s => a5 (sc2 s))) (fun M' vk' m3 w3 l q q1 q2 a1 a2 a3 a4 a5 => kR M' vk' m3 w3 l q q1 q2 a1 a2 (GGm.tr gm a3) (GGw.tr gw a4) (fun s => a5 (sc2 s))) (fun M' vk' m3 w3 k q1 q2 q3 a1 a2 a3 a4 a5 a6 a7 => kT M' vk' m3 w3 k q1 q2 q3 a1 a2 a3 (GGm.tr gm a4) (GGw.tr gw a5) (fun s => a6 (sc2 s)) ⟨a7.1.trans (wJ 88 (by omega)), a7.2.trans (by rw [w2i])⟩)
  -- here
  rw [one_28, show I ((n : Nat) : Int) + 1 = I ((n + 1 : Nat) : Int) from addN, bb_e]
  refine r_bnd (pk_mo (goto_r (N := N) (n := ((n + 1 : Nat) : Int)) hpp r11 fa.1.2.1 hj) (fun w0 _ h => ?_))
  subst h
  have aw : ∀ K i, K ≠ 98 → A (wa w 98 (60 * p + j) ((n + 1 : Nat) : Int)) K i = A w K i := fun K i h => by rw [wa_rne h]
  rw [oth_28]
  refine r_bb (r_bb ?_)
  refine after_k (W := W) (z := nb j) (h := (Hs j).length) (k := (Os j).length) (r := r) (j := j) hpp hn r11 ((aw 92 p (by omega)).trans w92) (by omega) ((aw 95 p (by omega)).trans fa.1.2.1) hj ((aw 99 _ (by omega)).trans g4) ((aw 101 _ (by omega)).trans g6) ((aw 27 n (by omega)).trans h27) ((aw 25 n (by omega)).trans h25) rfl (fun s0 v0 => ?_) (fun e => ?_) (fun n1 n2 => ?_)
  · have s0' : so (m.2.2.2 (pq p 35) W) = 0 := by rw [← RTb_so rt]; exact s0
    have nh : ¬ isH (m.2.2.2 (pq p 35) W) := by unfold isH; omega
    have ex : w.2.2.2 91 (46000 * p + W) = m.2.2.2 (pq p 35) W := RTb_n rt nh
    have v0' : 0 ≤ va (m.2.2.2 (pq p 35) W) := by rw [← ex]; exact v0
    rw [k1 s0' v0', bnd_so]
    simp only [bnd_so]
    have eh : ((wa w 98 (60 * p + j) ((n + 1 : Nat) : Int)).1 120).toInt64 + (I (va ((wa w 98 (60 * p + j) ((n + 1 : Nat) : Int)).2.2.2 91 (46000 * p + W)))).toInt64 = (m.1 944).toInt64 + ((m.2.2.2 (pq p 35) W).toInt32).toInt64 := by
      show (w.1 120).toInt64 + (I (va (w.2.2.2 91 (46000 * p + W)))).toInt64 = _
      rw [ex, ← hcl, valI]
    rw [eh]
    have vr := va_r (m.2.2.2 (pq p 35) W)
    refine fin _ _ (fun l h1 h2 => ?_) (fun l h0 h1 => ?_) rfl ?_ ?_ ?_ ?_ ?_ (Or.inr ?_)
    · rw [wi_1 (fun c => pq_n (by omega) c.symm), wi_1 (pq_inj h2)]
      exact wi_1 (pq_inj h1)
    · rw [wi_1 h1, wi_1 (pq_n h0)]
      exact wi_1 (pq_n h0)
    · rw [wi_ne (fun c => pq_n (by omega) c.symm), wi_ne (pq_inj (by omega))]
      show F (wi m (pq p 8) 0) (pq p 8) = _
      rw [wi_sm (by omega) (by omega)]; rfl
    · rw [wi_ne (fun c => pq_n (by omega) c.symm), wi_sm (by omega) (by omega)]
    · exact if_pos rfl
    · rw [wi_sm (by omega) (by omega)]
    · exact GGm.tr (GGm.tr (GGm.tr (GGm.tr (GGm_own (by omega)) (GGm_l (by omega))) (GGm_l (by omega))) (GGm_own (by omega))) (GGm_reg (by omega))
    · refine hr_ge ?_ ?_
      · rw [hcl]; exact hc0
      · rw [valI, I_ti vr.1 vr.2]; exact v0'
  · have e' : m.2.2.2 (pq p 35) W = mk 1 10 := (RTb_at rt).mpr e
    rw [k2 e', bnd_so]
    simp only [bnd_so]
    refine fin _ _ (fun l h1 h2 => ?_) (fun l h0 h1 => ?_) rfl ?_ ?_ ?_ ?_ ?_ (Or.inl rfl)
    · rw [wi_1 (fun c => pq_n (by omega) c.symm), wi_1 (pq_inj h2)]
      exact wi_1 (pq_inj h1)
    · rw [wi_1 h1, wi_1 (pq_n h0)]
      exact wi_1 (pq_n h0)
    · rw [wi_ne (fun c => pq_n (by omega) c.symm), wi_ne (pq_inj (by omega))]
      show F (wi m (pq p 8) 0) (pq p 8) = _
      rw [wi_sm (by omega) (by omega)]; rfl
    · rw [wi_ne (fun c => pq_n (by omega) c.symm), wi_sm (by omega) (by omega)]
    · exact if_pos rfl
    · rw [wi_sm (by omega) (by omega)]
    · exact GGm.tr (GGm.tr (GGm.tr (GGm_own (by omega)) (GGm_l (by omega))) (GGm_own (by omega))) (GGm_reg (by omega))
  · have n1' : ¬ (so (m.2.2.2 (pq p 35) W) = 0 ∧ 0 ≤ va (m.2.2.2 (pq p 35) W)) := fun c => by
      have nh : ¬ isH (m.2.2.2 (pq p 35) W) := by unfold isH; omega
      have ex : w.2.2.2 91 (46000 * p + W) = m.2.2.2 (pq p 35) W := RTb_n rt nh
      refine n1 ?_
      show so (w.2.2.2 91 (46000 * p + W)) = 0 ∧ 0 ≤ va (w.2.2.2 91 (46000 * p + W))
      rw [ex]
      exact c
    have n2' : m.2.2.2 (pq p 35) W ≠ mk 1 10 := fun c => n2 ((RTb_at rt).mp c)
    rw [k3 n1' n2', bnd_so]
    refine r_bb ?_
    simp only [bnd_so]
    generalize hmA : wl (wi m (pq p 8) 0) (pq p 10) (-1) = mA
    generalize hw9 : wa (wa w 98 (60 * p + j) ((n + 1 : Nat) : Int)) 92 p ((W : Nat) : Int) = w9
    have aq : ∀ k, k ≠ 8 → mA.1 (pq p k) = m.1 (pq p k) := fun k h => by rw [← hmA]; exact wi_1 (pq_inj h)
    have ag : ∀ k, k < 2000 → mA.1 k = m.1 k := fun k h => by rw [← hmA]; exact wi_1 (pq_n h)
    have aF : ∀ k, k < 2000 → F mA k = F m k := fun k h => congrArg Int32.toInt (ag k h)
    have fA : ∀ k, k ≠ 8 → F mA (pq p k) = F m (pq p k) := fun k h => congrArg Int32.toInt (aq k h)
    have a2 : mA.2.2 = m.2.2 := by rw [← hmA]; rfl
    have gmA : GGm p m mA := by rw [← hmA]; exact GGm.tr (GGm_own (by omega)) (GGm_l (by omega))
    have w9i : w9.1 = w.1 := by rw [← hw9]; rfl
    have w9F : ∀ k, F w9 k = F w k := fun k => by show (w9.1 k).toInt = _; rw [w9i]; rfl
    have w9J : w9.2.2.2 = w.2.2.2 := by rw [← hw9]; rfl
    have w9L : w9.2.1 = w.2.1 := by rw [← hw9]; rfl
    have w9t : ∀ K i, ¬ (K = 98 ∧ i = 60 * p + j) → ¬ (K = 92 ∧ i = p) → w9.2.2.1 K i = w.2.2.1 K i := fun K i h1 h2 => by rw [← hw9, wa_at h2, wa_at h1]
    have w9A : ∀ K i, ¬ (K = 98 ∧ i = 60 * p + j) → ¬ (K = 92 ∧ i = p) → A w9 K i = A w K i := fun K i h1 h2 => congrArg Int32.toInt (w9t K i h1 h2)
    have w9R : ∀ K, K ≠ 98 → K ≠ 92 → w9.2.2.1 K = w.2.2.1 K := fun K h1 h2 => by funext i; exact w9t K i (fun c => h1 c.1) (fun c => h2 c.1)
    have w992 : A w9 92 p = ((W : Nat) : Int) := by rw [← hw9, wa_sm (by omega) (by omega)]
    have pr : ∀ K, PRr K → w9.2.2.1 K = w.2.2.1 K := fun K h => w9R K (by unfold PRr at h; omega) (by unfold PRr at h; omega)
    have gw9 : GGw p w w9 := by rw [← hw9]; exact GGw.tr (GGw_fg FGw.goto hj) (GGw_fg (jj := j) FGw.w92 hj)
    have fc9 : FAs mA w9 p j nb Hs Os ∧ CTs mA w9 p j nb Hs Os := FC_w ⟨fa, ct⟩ (fun l h => aq l (by omega)) (fun l _ => by rw [a2]) (by rw [a2]) (fun K h => w9t K p (by omega) (by omega)) (fun K q h1 h2 h3 h4 => w9t K _ (by omega) (by omega)) (fun K c h1 h2 _ => w9t K _ (by omega) (by omega)) pr (by rw [w9J])
    have ru9 : RUb mA w9 p j nb Hs Os none := ⟨fc9, ⟨(fA 9 (by omega)).trans r5, (w9A 109 p (by omega) (by omega)).trans r6⟩, Or.inl ⟨rfl, (aF 1112 (by omega)).trans h12, (w9F 152).trans h152⟩, ⟨(aF 1108 (by omega)).trans r8, (aF 1109 (by omega)).trans r9, (w9F 151).trans r10⟩, (w9F 133).trans r11, by rw [ag 1106 (by omega), w9i]; exact r12, by rw [ag 1107 (by omega), w9i]; exact r13⟩
    have lbA : LNB mA p := by
      obtain ⟨l1, l2, l3⟩ := lb
      refine ⟨by rw [fA 45 (by omega)]; exact l1, by rw [fA 43 (by omega), fA 42 (by omega)]; exact l2, by rw [fA 47 (by omega), fA 28 (by omega)]; exact l3⟩
    have ptA : PTQ mA p U ow kw Fv P B (W + 1) Y := PTQ_same pt (fun k hk => aq k (by simp at hk; omega)) (fun k _ => by rw [a2])
    have cxA : CTX Fv P mA := CTX_fr cx (ag 22 (by omega)) (by rw [a2])
    have caA : CTa mA w9 p W := fun c h => by
      rw [fA 28 (by omega)] at h
      rw [w9A 104 _ (by omega) (by omega), w9A 103 _ (by omega) (by omega)]
      exact ca c h
    have sc9 : SCs p m w → SCs p mA w9 := fun s => SC_ow s (fun l hl => aq l (by omega)) (by rw [a2]) (fun K h1 h2 => w9R K (by omega) (by omega))
    have hp9 : hp w9 p = hp w p := by
      funext k
      show w9.2.2.2 88 (500 * p + k) = _
      rw [w9J]
      rfl
    have gA : GT U ow kw P (mk 1 11) := Or.inl ⟨nh_mk (by omega), cx.2.2.2.2.2.1 11 (by omega) (by have := cx.2.2.2.1; omega)⟩
    have gA' : GT U ow' kd' P' (mk 1 11) := Or.inl ⟨nh_mk (by omega), pb.1 11 (by omega) (by omega)⟩
    have rtA : RTb b (mk 1 11) (mk 1 11) := RTb_lit (nh_mk (by omega)) (fun c => by rw [so_mk (by omega) (by omega)] at c; omega)
    show PP Q _ (bnd ((rc_M_error N 20).1 w9 (I 11)) (fun u _ => K0 u))
    refine er_pp (K2 := fun u => K0 u) (fun d => ?_)
    obtain ⟨nC, n1c, n2c, -⟩ := id ct
    obtain ⟨x1, x2, x3, x4, ⟨x5, x6⟩, ⟨x7, x8⟩, ⟨x9, x10⟩, x11, x12, x13, x14⟩ := xc
    cases nC with
    | zero =>
      have xc9 : CX w9 p (hp w9 p) U ow' kd' Fv' P' W B0 Y := by
        refine ⟨rfl, by rw [hp9]; exact x2, x3, x4, ⟨w992, by omega⟩, ⟨by rw [w9A 94 p (by omega) (by omega)]; exact x7, x8⟩, ⟨by rw [w9A 108 p (by omega) (by omega)]; exact x9, x10⟩, fun i hi => by rw [w9J]; exact x11 i (by omega), fun i hi => by rw [w9J]; exact x12 i hi, fun i hi => by rw [w9J]; exact x13 i hi, fun h => by rw [w9L]; exact x14 (by rw [← w9F]; exact h)⟩
      refine err195 (by omega) ?_
      rw [raise_n ((aF 1112 (by omega)).trans h12) ⟨by omega, by omega⟩]
      have sct : SCs p mA w9 → SCs p (trs mA 1 (-1) (mk 1 11)) w9 := fun s => SC_ow s (fun _ _ => trs_q) rfl (fun _ _ _ => rfl)
      refine err_n2 (K1 := fun u => q206 Sf N (qgo Sf N M1) u p (I ((vk : Nat) : Int))) (K2 := fun u => K0 u) (ee' := 0) hpp hpr ?_ ?_ ?_ ?_ ?_ ((w9F 152).trans h152) ((w9F 133).trans r11) ⟨?_, ?_⟩ (PTQ_trs ptA) (CTX_trs cxA) xc9 (by rw [trs_10]; exact gA) gA' (by rw [trs_10]; exact rtA) ⟨(congrArg Int32.toInt (trs_1 (by omega) (by omega))).trans ((aF 955 (by omega)).trans hee.1), hee.2⟩ ⟨(w9F 150).trans q150, by omega⟩ (fun m1 t1 b1 b2 _ b3 b4 => ke m1 w9 1 t1 _ (GGm.tr gmA (GGm.tr GGm_trs b1)) gw9 (fun s => b2 (sct (sc9 s))) b3 (by omega) b4)
      · rw [trs_3, a2, hp9]
        exact pl.1.2.1
      · rw [w9A 89 p (by omega) (by omega)]
        have := pl.1.1.2.1
        rw [wa_rne (by omega)] at this
        exact this
      · rw [trs_q, aq 5 (by omega), w9R 90 (by omega) (by omega)]
        have := pl.1.2.2
        rw [wa_21 (by omega)] at this
        exact this
      · rw [show F (trs mA 1 (-1) (mk 1 11)) (pq p 28) = F mA (pq p 28) from congrArg Int32.toInt trs_q, fA 28 (by omega)]
        exact n1c
      · rw [w9A 106 p (by omega) (by omega)]
        exact n2c
      · rw [show F (trs mA 1 (-1) (mk 1 11)) (pq p 9) = F mA (pq p 9) from congrArg Int32.toInt trs_q, fA 9 (by omega), r5]
        omega
      · rw [w9A 109 p (by omega) (by omega), r6]
        omega
    | succ c =>
      obtain ⟨hc, -⟩ := ca c n1c
      rw [← gup_94 (z := ((B : Nat) : Int)) (c := c) hpp ((w9F 133).trans r11) ((w9F 152).trans h152) ((w9A 106 p (by omega) (by omega)).trans n2c) (by omega)]
      have hpE : hp (wa w9 94 p ((B : Nat) : Int)) p = hp w p := hp9
      have xcE : CX (wa w9 94 p ((B : Nat) : Int)) p (hp (wa w9 94 p ((B : Nat) : Int)) p) U ow' kd' Fv' P' W B Y := by
        refine ⟨rfl, by rw [hpE]; exact x2, x3, x4, ⟨by rw [wa_rne (by omega)]; exact w992, by omega⟩, ⟨wa_sm (by omega) (by omega), bd.1⟩, ⟨by rw [wa_rne (by omega), w9A 108 p (by omega) (by omega)]; exact x9, x10⟩, fun i hi => ?_, fun i hi => ?_, fun i hi => ?_, fun h => ?_⟩
        · show GT U ow' kd' P' (w9.2.2.2 91 (46000 * p + i))
          rw [w9J]; exact x11 i (by omega)
        · show GT U ow' kd' P' (w9.2.2.2 93 (2500 * p + i))
          rw [w9J]; exact x12 i (by omega)
        · show GT U ow' kd' P' (w9.2.2.2 107 (30 * p + i))
          rw [w9J]; exact x13 i hi
        · show GT U ow' kd' P' (w9.2.1 139)
          rw [w9L]
          refine x14 ?_
          rw [← w9F]
          exact h
      have plE : PLs b p (wi mA (pq p 26) ((W : Nat) : Int)) (wa w9 94 p ((B : Nat) : Int)) U B W Y := PLs_cg (PLs_drop (W := W) (k := 1) pl (by omega)) (fun k hk => by
          by_cases c : k = 26
          · subst c
            rw [wi_s1, wi_s1]
          · rw [wi_1 (pq_inj c), wi_1 (pq_inj c)]
            exact aq k (by simp at hk; omega)) (fun i _ => by show mA.2.2.2 _ _ = _; rw [a2]; rfl) (fun i _ => by show mA.2.2.2 _ _ = _; rw [a2]; rfl) (fun i _ => by show mA.2.2.2 _ _ = _; rw [a2]; rfl) (fun i _ => by show mA.2.2.2 _ _ = _; rw [a2]; rfl) (fun K hK => by
          by_cases c : K = 92
          · subst c
            rw [wa_21 (by omega), wa_s1]
            exact I_A' w992
          · by_cases c2 : K = 94
            · subst c2
              rw [wa_s1, wa_21 (by omega), wa_s1]
            · rw [wa_21 c2, wa_21 c, wa_21 c2]
              exact w9t K p (by simp at hK; omega) (by omega)) (fun i _ => by show w9.2.2.2 _ _ = _; rw [w9J]; rfl) (fun i _ => by show w9.2.2.2 _ _ = _; rw [w9J]; rfl) (fun i _ => by show w9.2.2.2 _ _ = _; rw [w9J]; rfl) (fun i _ => by show w9.2.2.2 _ _ = _; rw [w9J]; rfl)
      have gwE : GGw p w (wa w9 94 p ((B : Nat) : Int)) := GGw.tr gw9 (GGw_own (Or.inl ⟨by omega, rfl⟩))
      have scE : SCs p m w → SCs p mA (wa w9 94 p ((B : Nat) : Int)) := fun s => SC_ow (sc9 s) (fun _ _ => rfl) rfl (fun K h1 h2 => wa_21 (by omega))
      have caE : CTa mA (wa w9 94 p ((B : Nat) : Int)) p W := fun c h => by
        rw [wa_rne (by omega), wa_rne (by omega)]
        exact caA c h
      exact wrong_up (how := 1) (kn := 0) (Wc := W + 1) (ee' := 0) (K2 := fun u => K0 u) (Or.inl ⟨rfl, rfl⟩) hpp hpr plE (RUb_94 ru9) (by omega) bd lbA ptA cxA xcE pb gA gA' rtA caE ⟨(aF 955 (by omega)).trans hee.1, hee.2⟩ ⟨(w9F 150).trans q150, by omega⟩ hN (fun b3 U3 W3 r k a0 nn m3 w3 b1 b2 b3' b4 b5 => kk b3 U3 W3 r k a0 nn m3 w3 b1 b2 (GGm.tr gmA b3') (GGw.tr gwE b4) (fun s => b5 (scE s))) (fun m3 w3 wr t3 x3 b1 b2 b3 b4 b5 b6 => ke m3 w3 wr t3 x3 (GGm.tr gmA b1) (GGw.tr gwE b2) (fun s => b3 (scE s)) b4 b5 b6)
end
