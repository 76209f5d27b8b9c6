/-! a catch begins, a catch ends -/
set_option maxRecDepth 100000
section
variable {α β : Type} {b : Int → Nat → Nat → Prop} {N p k l U B W Y j a n : Nat} {m w m2 w2 m3 w3 : MS} {t x : Int64} {nb : Nat → Nat} {Hs Os : Nat → List Nat} {y : Option (Nat × Nat × Nat)} {Q : MS → α → MS → β → Prop} {K1 : MS → Option (MS × α)} {K2 : MS → Option (MS × β)} {v : Int}
theorem one_19 : fm_M_one N w (I v) (I 19) = bnd (fm_M_goTo N w (I v + 1)) (fun u7 _ => bnd (fm_M_otherRun N u7 (I v) (I 19)) (fun u8 _ => some (u8, ()))) := rfl
theorem oth_19 {z : Int32} : fm_M_otherRun N w z (I 19) = ck (inb (w.1 133) (ln 106)) (lt (((w.1 133) * 1600) + (w.2.2.1 106 (w.1 133).toNatClampNeg)) (fun y15 => ck (inb (w.1 133) (ln 95)) (ck (inb y15 (ln 102)) (lt (upA w 102 (upd (w.2.2.1 102) y15.toNatClampNeg ((w.2.2.1 95 (w.1 133).toNatClampNeg) - 1))) (fun w16 => ck (inb y15 (ln 103)) (lt (upA w16 103 (upd (w16.2.2.1 103) y15.toNatClampNeg z)) (fun w17 => ck (inb (w17.1 133) (ln 92)) (ck (inb y15 (ln 104)) (lt (upA w17 104 (upd (w17.2.2.1 104) y15.toNatClampNeg (w17.2.2.1 92 (w17.1 133).toNatClampNeg))) (fun w18 => ck (inb (w18.1 133) (ln 94)) (ck (inb y15 (ln 105)) (lt (upA w18 105 (upd (w18.2.2.1 105) y15.toNatClampNeg (w18.2.2.1 94 (w18.1 133).toNatClampNeg))) (fun w19 => ck (inb (w19.1 133) (ln 106)) (ck (inb (w19.1 133) (ln 106)) (lt (upA w19 106 (upd (w19.2.2.1 106) (w19.1 133).toNatClampNeg ((w19.2.2.1 106 (w19.1 133).toNatClampNeg) + 1))) (fun w20 => some (w20, ()))))))))))))))))) := rfl
theorem oth_20 {z : Int32} : fm_M_otherRun N w z (I 20) = ck (inb (w.1 133) (ln 106)) (ck (inb (w.1 133) (ln 106)) (lt (upA w 106 (upd (w.2.2.1 106) (w.1 133).toNatClampNeg ((w.2.2.1 106 (w.1 133).toNatClampNeg) - 1))) (fun w14 => some (w14, ())))) := rfl
/-- a catch is noted, here -/
theorem catn_r {c B2 W2 : Nat} {z : Int} (hp : p < 24) (h3 : F w 133 = ((p : Nat) : Int)) (h95 : A w 95 p = ((j + 1 : Nat) : Int)) (h92 : A w 92 p = ((W2 : Nat) : Int)) (h94 : A w 94 p = ((B2 : Nat) : Int)) (h106 : A w 106 p = ((c : Nat) : Int)) (hc : c < 1600) (hz : RG z) : PK (fun w2 (_ : Unit) => w2 = wa (wa (wa (wa (wa w 102 (1600 * p + c) ((j : Nat) : Int)) 103 (1600 * p + c) z) 104 (1600 * p + c) ((W2 : Nat) : Int)) 105 (1600 * p + c) ((B2 : Nat) : Int)) 106 p ((c + 1 : Nat) : Int)) (fm_M_otherRun N w (I z) (I 19)) := by
  rw [oth_19]
  have ix : (I ((p : Nat) : Int) * 1600 + I ((c : Nat) : Int)).toNatClampNeg = 1600 * p + c := by
    rw [show (1600 : Int32) = I 1600 from rfl, I_mul, I_add]
    exact tnI (n := 1600 * p + c) (by omega) (by omega)
  rw [I_F' h3, tnI (n := p) rfl (by omega), I_A' h106, I_A' h95, show I ((j + 1 : Nat) : Int) - 1 = I ((j : Nat) : Int) by rw [lit1, I_sub]; congr 1; omega]
  refine pk_ck (fun _ => pk_lt (pk_ck (fun _ => pk_ck (fun _ => pk_lt (pk_ck (fun _ => pk_lt ?_))))))
  rw [ix, wa_e, wa_e]
  have g3 : F (wa (wa w 102 (1600 * p + c) ((j : Nat) : Int)) 103 (1600 * p + c) z) 133 = ((p : Nat) : Int) := h3
  have g92 : A (wa (wa w 102 (1600 * p + c) ((j : Nat) : Int)) 103 (1600 * p + c) z) 92 p = ((W2 : Nat) : Int) := by
    rw [wa_rne (by omega), wa_rne (by omega)]; exact h92
  rw [I_F' g3, tnI (n := p) rfl (by omega), I_A' g92]
  refine pk_ck (fun _ => pk_ck (fun _ => pk_lt ?_))
  rw [wa_e]
  have g3' : F (wa (wa (wa w 102 (1600 * p + c) ((j : Nat) : Int)) 103 (1600 * p + c) z) 104 (1600 * p + c) ((W2 : Nat) : Int)) 133 = ((p : Nat) : Int) := h3
  have g94 : A (wa (wa (wa w 102 (1600 * p + c) ((j : Nat) : Int)) 103 (1600 * p + c) z) 104 (1600 * p + c) ((W2 : Nat) : Int)) 94 p = ((B2 : Nat) : Int) := by
    have hW := A_r w 92 p
    rw [h92] at hW
    rw [wa_rne (by omega), wa_rne (by omega), wa_rne (by omega)]; exact h94
  rw [I_F' g3', tnI (n := p) rfl (by omega), I_A' g94]
  refine pk_ck (fun _ => pk_ck (fun _ => pk_lt ?_))
  rw [wa_e]
  have g3'' : F (wa (wa (wa (wa w 102 (1600 * p + c) ((j : Nat) : Int)) 103 (1600 * p + c) z) 104 (1600 * p + c) ((W2 : Nat) : Int)) 105 (1600 * p + c) ((B2 : Nat) : Int)) 133 = ((p : Nat) : Int) := h3
  have g106 : A (wa (wa (wa (wa w 102 (1600 * p + c) ((j : Nat) : Int)) 103 (1600 * p + c) z) 104 (1600 * p + c) ((W2 : Nat) : Int)) 105 (1600 * p + c) ((B2 : Nat) : Int)) 106 p = ((c : Nat) : Int) := by
    have hW := A_r w 92 p
    rw [h92] at hW
    have hB := A_r w 94 p
    rw [h94] at hB
    rw [wa_rne (by omega), wa_rne (by omega), wa_rne (by omega), wa_rne (by omega)]; exact h106
  rw [I_F' g3'', tnI (n := p) rfl (by omega), I_A' g106, show I ((c : Nat) : Int) + 1 = I ((c + 1 : Nat) : Int) from addN]
  refine pk_ck (fun _ => pk_ck (fun _ => pk_lt ?_))
  rw [wa_e]
  exact pk_some rfl
/-- what is told of the rest when a step is over -/
theorem SC_ow (s : SCs p m w) (h1 : ∀ k, k = 11 ∨ k = 12 ∨ k = 13 ∨ k = 15 ∨ k = 29 → m2.1 (pq p k) = m.1 (pq p k)) (h2 : m2.2.2.1 (pq p 14) = m.2.2.1 (pq p 14)) (h3 : ∀ K, 112 ≤ K → K ≤ 117 → w2.2.2.1 K = w.2.2.1 K) : SCs p m2 w2 := by
  obtain ⟨s1, s2, s3, s4, s5, s6⟩ := s
  refine ⟨?_, ?_, ?_, ?_, ?_, fun i hi => ?_⟩
  · rw [h1 12 (by omega), h3 113 (by omega) (by omega)]; exact s1
  · rw [h1 13 (by omega), h3 114 (by omega) (by omega)]; exact s2
  · rw [h1 11 (by omega), h3 112 (by omega) (by omega)]; exact s3
  · rw [h1 15 (by omega), h3 117 (by omega) (by omega)]; exact s4
  · rw [h1 29 (by omega), h3 115 (by omega) (by omega)]; exact s5
  · have e : F m2 (pq p 15) = F m (pq p 15) := congrArg Int32.toInt (h1 15 (by omega))
    rw [e] at hi
    rw [h2, h3 116 (by omega) (by omega)]
    exact s6 i hi
/-- a catch begins -/
theorem op_catch {t2 nn c : Nat} (hp : p < 24) (pl : PLs b p m w U B W Y) (ru : RUs m w p j nb Hs Os none a n) (lb : LNB m p) (hc : F m (pq p 28) = ((c : Nat) : Int)) (hcb : c ≤ 1500) (ha : a + 1 < 24000) (hn : n < 100000) (ht : A m 23 (a + 1) = ((t2 : Nat) : Int)) (hd : A w 25 n = ((nn : Nat) : Int)) (crc : ∃ f, CRs (A m 23) (ROs w) (w.2.2.2 34) f none t2 nn (Hs j) (Os j)) (cr : ∃ f, CRs (A m 23) (ROs w) (w.2.2.2 34) f none (a + 2) (n + 1) (Hs j) (Os j))
    (kk : ∀ m3 w3, PLs b p m3 w3 U B W Y → RUs m3 w3 p j nb Hs Os none (a + 2) (n + 1) → GGm p m m3 → GGw p w w3 → (SCs p m w → SCs p m3 w3) → PP Q (K1 m3) (K2 w3)) : PP Q (bnd (hm_Ma_flow N m p (I 29)) (fun u _ => K1 u)) (bnd (fm_M_one N w (I ((n : Nat) : Int)) (I 19)) (fun u _ => K2 u)) := by
  obtain ⟨⟨fa, ct⟩, ⟨r2, r3⟩, -, ⟨r5, r6⟩, r7, ⟨r8, r9, r10⟩, r11, r12, r13⟩ := id ru
  have hj : j < 60 := fa.1.2.2
  have t24 := A_r m 23 (a + 1)
  rw [ht] at t24
  have h106 : A w 106 p = ((c : Nat) : Int) := by
    obtain ⟨n', c1, c2, -⟩ := ct
    rw [c2, ← c1]; exact hc
  rw [flo29, I_F' r2, show I ((a : Nat) : Int) + 1 = I ((a + 1 : Nat) : Int) from addN, Co_e (k := a + 1) rfl ha, bnd_so, ht, bb_e]
  refine l_bnd (pk_mo (pk_ok (catchTo_ok (N := N) (z := I ((t2 : Nat) : Int)) lb hc hcb)) (fun m2 _ h => ?_))
  obtain ⟨f, j4, e28, -, r37, q0, q1, q2, q3⟩ := h
  have e5 : F m2 1105 = ((a : Nat) : Int) := by rw [f.Fg (by omega) (by simp)]; exact r2
  rw [I_F' e5, show I ((a : Nat) : Int) + 2 = I ((a + 2 : Nat) : Int) from addN, wi_e]
  show PP Q (K1 (wi m2 1105 ((a + 2 : Nat) : Int))) _
  rw [one_19, show I ((n : Nat) : Int) + 1 = I ((n + 1 : Nat) : Int) from addN, bb_e]
  refine r_bnd (pk_mo (goto_r (N := N) (n := ((n + 1 : Nat) : Int)) hp r11 fa.1.2.1 hj) (fun w2 _ h => ?_))
  subst h
  rw [bb_e]
  have aw : ∀ K i, K ≠ 98 → A (wa w 98 (60 * p + j) ((n + 1 : Nat) : Int)) K i = A w K i := fun K i h => by rw [wa_rne h]
  refine r_bnd (pk_mo (catn_r (N := N) (w := wa w 98 (60 * p + j) ((n + 1 : Nat) : Int)) (z := ((n : Nat) : Int)) hp r11 ((aw 95 p (by omega)).trans fa.1.2.1) ((aw 92 p (by omega)).trans pl.2.2.1.2.1) ((aw 94 p (by omega)).trans pl.2.1.2.1) ((aw 106 p (by omega)).trans h106) (by omega) ⟨by omega, by omega⟩) (fun w3 _ h => ?_))
  rw [bnd_so]
  have hW := A_r w 92 p
  rw [pl.2.2.1.2.1] at hW
  have hB := A_r w 94 p
  rw [pl.2.1.2.1] at hB
  -- what has been written, here
  have g3 : GGw p w w3 := by
    rw [h]
    refine GGw.tr (GGw.tr (GGw.tr (GGw.tr (GGw.tr (GGw_fg FGw.goto hj) (GGw_own ?_)) (GGw_own ?_)) (GGw_own ?_)) (GGw_own ?_)) (GGw_own ?_)
    · exact Or.inr (Or.inr (Or.inl ⟨by omega, by omega, by omega⟩))
    · exact Or.inr (Or.inr (Or.inl ⟨by omega, by omega, by omega⟩))
    · exact Or.inr (Or.inr (Or.inl ⟨by omega, by omega, by omega⟩))
    · exact Or.inr (Or.inr (Or.inl ⟨by omega, by omega, by omega⟩))
    · exact Or.inl ⟨by omega, rfl⟩
  have fr : FR [] [] [98, 102, 103, 104, 105, 106] [] w w3 := by
    rw [h]
    exact FR.wa (FR.wa (FR.wa (FR.wa (FR.wa (FR.wa FR.rf (by simp)) (by simp)) (by simp)) (by simp)) (by simp)) (by simp)
  have aA : ∀ K i, A w3 K i = if K = 106 then (if i = p then ((c + 1 : Nat) : Int) else A w 106 i) else if K = 105 then (if i = 1600 * p + c then ((B : Nat) : Int) else A w 105 i) else if K = 104 then (if i = 1600 * p + c then ((W : Nat) : Int) else A w 104 i) else if K = 103 then (if i = 1600 * p + c then ((n : Nat) : Int) else A w 103 i) else if K = 102 then (if i = 1600 * p + c then ((j : Nat) : Int) else A w 102 i) else if K = 98 then (if i = 60 * p + j then ((n + 1 : Nat) : Int) else A w 98 i) else A w K i := fun K i => by
    rw [h, A_wa (by omega) (by omega), A_wa hB.1 hB.2, A_wa hW.1 hW.2, A_wa (by omega) (by omega), A_wa (by omega) (by omega), A_wa (by omega) (by omega)]
    by_cases k1 : K = 106
    · subst k1; simp
    · by_cases k2 : K = 105
      · subst k2; simp
      · by_cases k3 : K = 104
        · subst k3; simp
        · by_cases k4 : K = 103
          · subst k4; simp
          · by_cases k5 : K = 102
            · subst k5; simp
            · by_cases k6 : K = 98
              · subst k6; simp
              · simp [k1, k2, k3, k4, k5, k6]
  have f3 : GGm p m (wi m2 1105 ((a + 2 : Nat) : Int)) := GGm.tr (GGm_fc f (by simp) (by simp) (by simp)) (GGm_reg (by omega))
  have i1 : ∀ k, k < 100 → k ≠ 28 → k ≠ 47 → (wi m2 1105 ((a + 2 : Nat) : Int)).1 (pq p k) = m.1 (pq p k) := fun k h1 h2 h3 => (if_neg (fun c => pq_n (by omega) c.symm)).trans (f.2.2.2.2.1 p k h1 (fun _ => by simp; omega))
  have a1 : ∀ k, k < 100 → k ≠ 37 → (wi m2 1105 ((a + 2 : Nat) : Int)).2.2.1 (pq p k) = m.2.2.1 (pq p k) := fun k h1 h2 => f.2.2.2.2.2.2.1 p k h1 (fun _ => by simp; omega)
  have eB : B = nb j + (Hs j ++ Os j).length := by
    have := fa.2.2.2
    rw [pl.2.1.1] at this
    omega
  have fm : ∀ k, 1106 ≤ k → k < 1120 → (wi m2 1105 ((a + 2 : Nat) : Int)).1 k = m.1 k := fun k h1 h2 => (if_neg (by omega)).trans (f.1 k (by omega) (by simp))
  refine kk _ _ (PLs_cg pl (fun k hk => i1 k (by simp at hk; omega) (by simp at hk; omega) (by simp at hk; omega)) (fun i _ => by show m2.2.2.2 _ i = _; rw [j4]) (fun i _ => by show m2.2.2.2 _ i = _; rw [j4]) (fun i _ => by show m2.2.2.2 _ i = _; rw [j4]) (fun i _ => by show m2.2.2.2 _ i = _; rw [j4]) (fun k hk => by rw [fr.2.2.1 k (by simp at hk ⊢; omega)]) (fun i _ => by rw [fr.2.2.2 88 (by simp)]) (fun i _ => by rw [fr.2.2.2 93 (by simp)]) (fun i _ => by rw [fr.2.2.2 91 (by simp)]) (fun i _ => by rw [fr.2.2.2 107 (by simp)])) (RUs_gen ru (FA_w fa (fun k hk => i1 k (by omega) (by omega) (by omega)) (fun k hk => a1 k (by omega) (by omega)) f3.2.1.1 (by rw [fr.2.2.1 95 (by simp)]) (fun K r c1 c2 c3 c4 => ?_) g3.2.1.1 g3.2.1.2.1) (CT_push (n := c) (t2 := t2) (nd := n) (nn := nn) fa ct hc (by omega) ?_ (by rw [aA]; simp) (fun i hi => r37 i hi) ?_ ?_ ?_ ?_ (fun K c2 h1 h2 h3 => ?_) (by rw [aA]; simp) (by rw [aA, eB]; simp) (by rw [aA]; simp) hd f3.2.1.1 g3.2.1.1 g3.2.1.2.1 crc) f3 g3 (i1 8 (by omega) (by omega) (by omega)) (i1 9 (by omega) (by omega) (by omega)) (by rw [aA]; simp) (f.2.2.2.2.2.1 p 10 (by omega) (fun _ => by simp)) (by rw [fr.2.2.2 111 (by simp)]) fm (fun k hk => fr.1 k (by simp)) (by rw [wi_sm (by omega) (by omega)]) (by rw [aA]; simp) cr) f3 g3 (fun s => SC_ow s (fun k hk => i1 k (by omega) (by omega) (by omega)) (a1 14 (by omega) (by omega)) (fun K h1 h2 => fr.2.2.1 K (by simp; omega)))
  · by_cases c5 : K = 98
    · subst c5
      have := c4 rfl
      refine Int32.toInt_inj.mp ?_
      show A w3 98 (60 * p + r) = A w 98 (60 * p + r)
      rw [aA]
      simp
      omega
    · rw [fr.2.2.1 K (by simp; omega)]
  · show F (wi m2 1105 ((a + 2 : Nat) : Int)) (pq p 28) = _
    rw [wi_ne (fun c => pq_n (by omega) c.symm)]
    exact e28
  · show A m2 (pq p 37) (4 * c) = _
    rw [q0]; exact fa.1.1
  · show A m2 (pq p 37) (4 * c + 1) = _
    rw [q1]; exact fa.2.2.2
  · show A m2 (pq p 37) (4 * c + 2) = _
    rw [q2, pl.2.2.1.1, aA]; simp
  · show A m2 (pq p 37) (4 * c + 3) = _
    rw [q3]; exact I_ti t24.1 t24.2
  · rw [aA]
    have e1 : K ≠ 106 := by omega
    have e2 : K ≠ 98 := by omega
    have e3 : 1600 * p + c2 ≠ 1600 * p + c := by omega
    by_cases k2 : K = 105
    · subst k2; simp [show c2 ≠ c by omega]
    · by_cases k3 : K = 104
      · subst k3; simp [show c2 ≠ c by omega]
      · by_cases k4 : K = 103
        · subst k4; simp [show c2 ≠ c by omega]
        · have k5 : K = 102 := by omega
          subst k5; simp [show c2 ≠ c by omega]
/-- a catch ends -/
theorem op_uncatch {c : Nat} (hp : p < 24) (pl : PLs b p m w U B W Y) (ru : RUs m w p j nb Hs Os y a n) (hc : F m (pq p 28) = ((c + 1 : Nat) : Int)) (hcb : c ≤ 1600) (ha : a + 1 < 24000) (hn : n < 100000) (cr : ∃ f, CRs (A m 23) (ROs w) (w.2.2.2 34) f y (a + 1) (n + 1) (Hs j) (Os j))
    (kk : ∀ m3 w3, PLs b p m3 w3 U B W Y → RUs m3 w3 p j nb Hs Os y (a + 1) (n + 1) → GGm p m m3 → GGw p w w3 → (SCs p m w → SCs p m3 w3) → PP Q (K1 m3) (K2 w3)) : PP Q (bnd (hm_Ma_flow N m p (I 30)) (fun u _ => K1 u)) (bnd (fm_M_one N w (I ((n : Nat) : Int)) (I 20)) (fun u _ => K2 u)) := by
  obtain ⟨⟨fa, ct⟩, ⟨r2, r3⟩, -, ⟨r5, r6⟩, r7, ⟨r8, r9, r10⟩, r11, r12, r13⟩ := id ru
  have hj : j < 60 := fa.1.2.2
  have h106 : A w 106 p = ((c + 1 : Nat) : Int) := by
    obtain ⟨n', c1, c2, -⟩ := ct
    rw [c2, ← c1]; exact hc
  have cm1 : I ((c + 1 : Nat) : Int) - 1 = I ((c : Nat) : Int) := by rw [lit1, I_sub]; congr 1; omega
  rw [flo30, I_F' r2, show I ((a : Nat) : Int) + 1 = I ((a + 1 : Nat) : Int) from addN, Co_e (k := a + 1) rfl ha, bnd_so, I_F' hc, cm1, wi_e, lt_e]
  have e5 : F (wi m (pq p 28) ((c : Nat) : Int)) 1105 = ((a : Nat) : Int) := by rw [wi_ne (pq_n (by omega))]; exact r2
  rw [I_F' e5, show I ((a : Nat) : Int) + 1 = I ((a + 1 : Nat) : Int) from addN, wi_e]
  show PP Q (K1 (wi (wi m (pq p 28) ((c : Nat) : Int)) 1105 ((a + 1 : Nat) : Int))) _
  rw [one_20, show I ((n : Nat) : Int) + 1 = I ((n + 1 : Nat) : Int) from addN, bb_e]
  refine r_bnd (pk_mo (goto_r (N := N) (n := ((n + 1 : Nat) : Int)) hp r11 fa.1.2.1 hj) (fun w2 _ h => ?_))
  subst h
  have g3 : F (wa w 98 (60 * p + j) ((n + 1 : Nat) : Int)) 133 = ((p : Nat) : Int) := r11
  have g106 : A (wa w 98 (60 * p + j) ((n + 1 : Nat) : Int)) 106 p = ((c + 1 : Nat) : Int) := by rw [wa_rne (by omega)]; exact h106
  rw [oth_20, bb_e, I_F' g3, tnI (n := p) rfl (by omega), I_A' g106, cm1]
  refine rb_ck (fun _ => rb_ck (fun _ => ?_))
  rw [wa_e]
  show PP Q _ (K2 (wa (wa w 98 (60 * p + j) ((n + 1 : Nat) : Int)) 106 p ((c : Nat) : Int)))
  have gg : GGw p w (wa (wa w 98 (60 * p + j) ((n + 1 : Nat) : Int)) 106 p ((c : Nat) : Int)) := GGw.tr (GGw_fg FGw.goto hj) (GGw_own (Or.inl ⟨by omega, rfl⟩))
  have fr : FR [] [] [98, 106] [] w (wa (wa w 98 (60 * p + j) ((n + 1 : Nat) : Int)) 106 p ((c : Nat) : Int)) := FR.wa (FR.wa FR.rf (by simp)) (by simp)
  have f3 : GGm p m (wi (wi m (pq p 28) ((c : Nat) : Int)) 1105 ((a + 1 : Nat) : Int)) := GGm.tr (GGm_own (by omega)) (GGm_reg (by omega))
  have i1 : ∀ k, k < 100 → k ≠ 28 → (wi (wi m (pq p 28) ((c : Nat) : Int)) 1105 ((a + 1 : Nat) : Int)).1 (pq p k) = m.1 (pq p k) := fun k h1 h2 => (if_neg (fun c => pq_n (by omega) c.symm)).trans (if_neg (pq_inj h2))
  have fm : ∀ k, 1106 ≤ k → k < 1120 → (wi (wi m (pq p 28) ((c : Nat) : Int)) 1105 ((a + 1 : Nat) : Int)).1 k = m.1 k := fun k h1 h2 => (if_neg (by omega)).trans (if_neg (pq_n (by omega)))
  have h98 : A (wa (wa w 98 (60 * p + j) ((n + 1 : Nat) : Int)) 106 p ((c : Nat) : Int)) 98 (60 * p + j) = ((n + 1 : Nat) : Int) := by rw [wa_rne (by omega), wa_sm (by omega) (by omega)]
  refine kk _ _ (PLs_cg pl (fun k hk => i1 k (by simp at hk; omega) (by simp at hk; omega)) (fun _ _ => rfl) (fun _ _ => rfl) (fun _ _ => rfl) (fun _ _ => rfl) (fun k hk => by rw [fr.2.2.1 k (by simp at hk ⊢; omega)]) (fun _ _ => rfl) (fun _ _ => rfl) (fun _ _ => rfl) (fun _ _ => rfl)) (RUs_gen ru (FA_w fa (fun k hk => i1 k (by omega) (by omega)) (fun k hk => rfl) rfl (by rw [fr.2.2.1 95 (by simp)]) (fun K r c1 c2 c3 c4 => ?_) gg.2.1.1 gg.2.1.2.1) (CT_pop (n := c) ct hc ?_ (by rw [wa_sm (by omega) (by omega)]) rfl (fun K c2 h1 h2 => FR.A fr (by simp; omega)) rfl gg.2.1.1 gg.2.1.2.1) f3 gg (i1 8 (by omega) (by omega)) (i1 9 (by omega) (by omega)) (FR.A fr (by simp)) rfl rfl fm (fun k hk => rfl) (by rw [wi_sm (by omega) (by omega)]) h98 cr) f3 gg (fun s => SC_ow s (fun k hk => i1 k (by omega) (by omega)) rfl (fun K h1 h2 => fr.2.2.1 K (by simp; omega)))
  · by_cases c5 : K = 98
    · subst c5
      have := c4 rfl
      exact (wa_at (by omega)).trans (wa_at (by omega))
    · rw [fr.2.2.1 K (by simp; omega)]
  · rw [wi_ne (fun c => pq_n (by omega) c.symm), wi_sm (by omega) (by omega)]
end
