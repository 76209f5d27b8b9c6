/-! names are forgotten -/
set_option maxRecDepth 100000
section
variable {α β : Type} {b : Int → Nat → Nat → Prop} {N p k l U B W Y j a n kn : Nat} {m w m2 w2 m3 w3 : MS} {t x : Int64} {nb : Nat → Nat} {Hs Os : Nat → List Nat} {y : Option (Nat × Nat × Nat)} {Q : MS → α → MS → β → Prop} {K1 : MS → Option (MS × α)} {K2 : MS → Option (MS × β)} {v : Int}
theorem one_18 : fm_M_one N w (I v) (I 18) = bnd (fm_M_goTo N w (I v + 1)) (fun u7 _ => ck (inb (I v) (ln 25)) (bnd (fm_M_namesTo N u7 (u7.2.2.1 25 (I v).toNatClampNeg)) (fun u19 _ => some (u19, ())))) := rfl
theorem names_r {h z k : Nat} (hpp : p < 24) (h3 : F w 133 = ((p : Nat) : Int)) (h95 : A w 95 p = ((j + 1 : Nat) : Int)) (hj : j < 60) (h99 : A w 99 (60 * p + j) = ((z : Nat) : Int)) (h101 : A w 101 (60 * p + j) = ((h : Nat) : Int)) : PK (fun w2 (_ : Unit) => w2 = wa w 94 p ((z + h + k : Nat) : Int)) (fm_M_namesTo N w (I ((k : Nat) : Int))) := by
  unfold fm_M_namesTo fb_M_namesTo_0 fm_M_frame0 fb_M_frame0_0
  have ix : (I ((p : Nat) : Int) * 60 + I ((j + 1 : Nat) : Int) - 1).toNatClampNeg = 60 * p + j := by
    rw [show (60 : Int32) = I 60 from rfl, lit1, I_mul, I_add, I_sub]
    exact tnI (n := 60 * p + j) (by omega) (by omega)
  rw [I_F' h3, tnI (n := p) rfl (by omega), I_A' h95]
  refine pk_bnd (pk_ck (fun _ => pk_some ?_))
  refine pk_ck (fun _ => pk_ck (fun _ => pk_ck (fun _ => pk_lt ?_)))
  rw [I_F' h3, tnI (n := p) rfl (by omega), ix, I_A' h99, I_A' h101, show I ((z : Nat) : Int) + I ((h : Nat) : Int) = I ((z + h : Nat) : Int) from addN, show I ((z + h : Nat) : Int) + I ((k : Nat) : Int) = I ((z + h + k : Nat) : Int) from addN, wa_e]
  exact pk_some rfl
theorem FA_less (fa : FAs m w p j nb Hs Os) (hk : kn ≤ (Os j).length) (h21 : m2.1 (pq p 21) = m.1 (pq p 21)) (h24 : F m2 (pq p 24) = ((nb j + (Hs j).length + kn : Nat) : Int)) (hr : ∀ k, k = 30 ∨ k = 32 → m2.2.2.1 (pq p k) = m.2.2.1 (pq p k)) (h23 : m2.2.2.1 23 = m.2.2.1 23) (h95 : w2.2.2.1 95 p = w.2.2.1 95 p) (h2f : ∀ K r, 96 ≤ K → K ≤ 101 → r ≤ j → (K = 98 → r < j) → w2.2.2.1 K (60 * p + r) = w.2.2.1 K (60 * p + r)) (pr : ∀ K, PRr K → w2.2.2.1 K = w.2.2.1 K) (h34 : w2.2.2.2 34 = w.2.2.2 34) : FAs m2 w2 p j nb Hs (tkO Os j kn) := by
  obtain ⟨⟨f1, f2, f3⟩, f4, f5, f6⟩ := fa
  have e23 : A m2 23 = A m 23 := by funext i; show (m2.2.2.1 23 i).toInt = _; rw [h23]; rfl
  have am : ∀ K i, K = 30 ∨ K = 32 → A m2 (pq p K) i = A m (pq p K) i := fun K i h => by show (m2.2.2.1 (pq p K) i).toInt = _; rw [hr K h]; rfl
  have aw : ∀ K r, 96 ≤ K → K ≤ 101 → r ≤ j → (K = 98 → r < j) → A w2 K (60 * p + r) = A w K (60 * p + r) := fun K r h1 h2 h3 h4 => congrArg Int32.toInt (h2f K r h1 h2 h3 h4)
  have hP : ∀ K i, PRr K → A w2 K i = A w K i := fun K i c => by show (w2.2.2.1 K i).toInt = _; rw [pr K c]; rfl
  refine ⟨⟨?_, ?_, f3⟩, fun i hi => ?_, fun i hi => ?_, ?_⟩
  · show (m2.1 (pq p 21)).toInt = _
    rw [h21]; exact f1
  · show (w2.2.2.1 95 p).toInt = _
    rw [h95]; exact f2
  · obtain ⟨g1, g2, ⟨g3, g4⟩, g5, g6, g7⟩ := f4 i hi
    refine ⟨by rw [am 30 _ (by omega), aw 96 i (by omega) (by omega) hi (by omega)]; exact g1, ?_, ⟨by rw [am 30 _ (by omega)]; exact g3, by rw [aw 99 i (by omega) (by omega) hi (by omega)]; exact g4⟩, by rw [am 30 _ (by omega), aw 100 i (by omega) (by omega) hi (by omega)]; exact g5, by rw [aw 101 i (by omega) (by omega) hi (by omega)]; exact g6, fun i2 x2 hx => ?_⟩
    · rw [am 30 _ (by omega), aw 97 i (by omega) (by omega) hi (by omega)]
      rcases g2 with g2 | ⟨k2, t2, e1, e2, e3⟩
      · exact Or.inl g2
      · exact Or.inr ⟨k2, t2, e1, by rw [hP 44 _ (by unfold PRr; omega)]; exact e2, by rw [hP 8 _ (by unfold PRr; omega)]; exact e3⟩
    · rw [am 32 _ (by omega)]
      refine g7 i2 x2 ?_
      unfold tkO at hx
      by_cases ir : i = j
      · rw [if_pos ir] at hx
        subst ir
        rw [List.getElem?_append] at hx ⊢
        by_cases c2 : i2 < (Hs i).length
        · rw [if_pos c2] at hx ⊢; exact hx
        · rw [if_neg c2] at hx ⊢
          rw [List.getElem?_take] at hx
          by_cases c3 : i2 - (Hs i).length < kn
          · rw [if_pos c3] at hx; exact hx
          · rw [if_neg c3] at hx; cases hx
      · rw [if_neg ir] at hx; exact hx
  · obtain ⟨g1, a, n, g2, g3, f, g4⟩ := f5 i hi
    have ir : i ≠ j := by omega
    refine ⟨by unfold tkO; rw [if_neg ir]; exact g1, a, n, by rw [am 30 _ (by omega)]; exact g2, by rw [aw 98 i (by omega) (by omega) (by omega) (by omega)]; exact g3, f, ?_⟩
    unfold tkO
    rw [if_neg ir, ROs_eq pr, e23, h34]
    exact g4
  · rw [h24]
    unfold tkO
    rw [if_pos rfl, List.length_append, List.length_take]
    congr 1
    omega
theorem CT_less (ct : CTs m w p j nb Hs Os) (hct : ∀ nC c : Nat, F m (pq p 28) = ((nC : Nat) : Int) → c < nC → A w 105 (1600 * p + c) ≤ ((nb j + (Hs j).length + kn : Nat) : Int)) (hk : kn ≤ (Os j).length) (h28 : m2.1 (pq p 28) = m.1 (pq p 28)) (h37 : m2.2.2.1 (pq p 37) = m.2.2.1 (pq p 37)) (h23 : m2.2.2.1 23 = m.2.2.1 23) (h106 : w2.2.2.1 106 p = w.2.2.1 106 p) (hw : ∀ K, 102 ≤ K → K ≤ 105 → w2.2.2.1 K = w.2.2.1 K) (pr : ∀ K, PRr K → w2.2.2.1 K = w.2.2.1 K) (h34 : w2.2.2.2 34 = w.2.2.2 34) : CTs m2 w2 p j nb Hs (tkO Os j kn) := by
  obtain ⟨n', c1, c2, c3, c4, c5⟩ := ct
  have e23 : A m2 23 = A m 23 := by funext i; show (m2.2.2.1 23 i).toInt = _; rw [h23]; rfl
  have am : ∀ i, A m2 (pq p 37) i = A m (pq p 37) i := fun i => by show (m2.2.2.1 (pq p 37) i).toInt = _; rw [h37]; rfl
  have aw : ∀ K i, 102 ≤ K → K ≤ 105 → A w2 K i = A w K i := fun K i h1 h2 => by show (w2.2.2.1 K i).toInt = _; rw [hw K h1 h2]; rfl
  have hP : ∀ K i, PRr K → A w2 K i = A w K i := fun K i c => by show (w2.2.2.1 K i).toInt = _; rw [pr K c]; rfl
  refine ⟨n', ?_, ?_, c3, fun c hc => ?_, fun c hc => ?_⟩
  · show (m2.1 (pq p 28)).toInt = _
    rw [h28]; exact c1
  · show (w2.2.2.1 106 p).toInt = _
    rw [h106]; exact c2
  · rw [aw 102 _ (by omega) (by omega), aw 102 _ (by omega) (by omega), aw 105 _ (by omega) (by omega), aw 105 _ (by omega) (by omega)]
    exact c4 c hc
  · obtain ⟨r', k', a, nd2, nn2, s1, s2, s3, s4, s5, s6, s7, s8, s9, s10, f, s11⟩ := c5 c hc
    have m2' := hct n' c c1 hc
    rw [s5] at m2'
    refine ⟨r', k', a, nd2, nn2, s1, by rw [am]; exact s2, by rw [aw 102 _ (by omega) (by omega)]; exact s3, by rw [am]; exact s4, by rw [aw 105 _ (by omega) (by omega)]; exact s5, ?_, by rw [am, aw 104 _ (by omega) (by omega)]; exact s7, by rw [am]; exact s8, by rw [aw 103 _ (by omega) (by omega)]; exact s9, by rw [hP 25 _ (by unfold PRr; omega)]; exact s10, f, ?_⟩
    · unfold tkO
      by_cases e : r' = j
      · subst e
        rw [if_pos rfl, List.length_take]
        omega
      · rw [if_neg e]; exact s6
    · rw [ROs_eq pr, e23, h34]
      unfold tkO
      by_cases e : r' = j
      · subst e
        rw [if_pos rfl, List.take_take, Nat.min_eq_left (by omega)]
        exact s11
      · rw [if_neg e]; exact s11
theorem tkO_j : tkO Os j kn j = (Os j).take kn := if_pos rfl
/-- names are forgotten -/
theorem op_forget (hpp : p < 24) (pl : PLs b p m w U B W Y) (ru : RUs m w p j nb Hs Os none a n) (hB : B ≤ 2500) (ha : a + 2 < 24000) (hn : n < 100000) (hk : kn ≤ (Os j).length) (ht : A m 23 (a + 1) = (((Os j).length - kn : Nat) : Int)) (hd : A w 25 n = ((kn : Nat) : Int)) (hct : ∀ nC c : Nat, F m (pq p 28) = ((nC : Nat) : Int) → c < nC → A w 105 (1600 * p + c) ≤ ((nb j + (Hs j).length + kn : Nat) : Int)) (cr : ∃ f, CRs (A m 23) (ROs w) (w.2.2.2 34) f none (a + 2) (n + 1) (Hs j) ((Os j).take kn))
    (kk : ∀ m3 w3, PLs b p m3 w3 U (nb j + (Hs j).length + kn) W Y → RUs m3 w3 p j nb Hs (tkO Os j kn) none (a + 2) (n + 1) → GGm p m m3 → GGw p w w3 → (SCs p m w → SCs p m3 w3) → PP Q (K1 m3) (K2 w3)) : PP Q (bnd (hm_Ma_value N m p (I 16)) (fun u _ => K1 u)) (bnd (fm_M_one N w (I ((n : Nat) : Int)) (I 18)) (fun u _ => K2 u)) := by
  obtain ⟨⟨fa, ct⟩, ⟨r2, r3⟩, -, ⟨r5, r6⟩, r7, ⟨r8, r9, r10⟩, r11, r12, r13⟩ := id ru
  have hj : j < 60 := fa.1.2.2
  have fl := fa.2.1 j (Nat.le_refl _)
  have eB : B = nb j + (Hs j).length + (Os j).length := by
    have := fa.2.2.2
    rw [pl.2.1.1, List.length_append] at this
    omega
  have eB2 : B - ((Os j).length - kn) = nb j + (Hs j).length + kn := by omega
  rw [val16, I_F' r2, show I ((a : Nat) : Int) + 1 = I ((a + 1 : Nat) : Int) from addN, Co_e (k := a + 1) rfl (by omega), bnd_so, ht, forgetc_e (B := B) (k := (Os j).length - kn) pl.2.1.1 rfl (by omega), bnd_so, eB2]
  have e5 : F (wi m (pq p 24) ((nb j + (Hs j).length + kn : Nat) : Int)) 1105 = ((a : Nat) : Int) := by rw [wi_ne (pq_n (by omega))]; exact r2
  rw [I_F' e5, show I ((a : Nat) : Int) + 2 = I ((a + 2 : Nat) : Int) from addN, wi_e]
  show PP Q (K1 (wi (wi m (pq p 24) ((nb j + (Hs j).length + kn : Nat) : Int)) 1105 ((a + 2 : Nat) : Int))) _
  rw [one_18, show I ((n : Nat) : Int) + 1 = I ((n + 1 : Nat) : Int) from addN, bb_e]
  refine r_bnd (pk_mo (goto_r (N := N) (n := ((n + 1 : Nat) : Int)) hpp r11 fa.1.2.1 hj) (fun w2 _ h => ?_))
  subst h
  have aw : ∀ K i, K ≠ 98 → A (wa w 98 (60 * p + j) ((n + 1 : Nat) : Int)) K i = A w K i := fun K i h => by rw [wa_rne h]
  refine rb_ck (fun _ => ?_)
  rw [tnI (n := n) rfl (by omega), I_A' ((aw 25 n (by omega)).trans hd), bb_e]
  refine r_bnd (pk_mo (names_r (N := N) (w := wa w 98 (60 * p + j) ((n + 1 : Nat) : Int)) (k := kn) hpp r11 ((aw 95 p (by omega)).trans fa.1.2.1) hj ((aw 99 _ (by omega)).trans fl.2.2.1.2) ((aw 101 _ (by omega)).trans fl.2.2.2.2.1)) (fun w3 _ h => ?_))
  subst h
  rw [bnd_so]
  have gg : GGw p w (wa (wa w 98 (60 * p + j) ((n + 1 : Nat) : Int)) 94 p ((nb j + (Hs j).length + kn : Nat) : Int)) := GGw.tr (GGw_fg FGw.goto hj) (GGw_own (Or.inl ⟨by omega, rfl⟩))
  have fr : FR [] [] [94, 98] [] w (wa (wa w 98 (60 * p + j) ((n + 1 : Nat) : Int)) 94 p ((nb j + (Hs j).length + kn : Nat) : Int)) := FR.wa (FR.wa FR.rf (by simp)) (by simp)
  have f3 : GGm p m (wi (wi m (pq p 24) ((nb j + (Hs j).length + kn : Nat) : Int)) 1105 ((a + 2 : Nat) : Int)) := GGm.tr (GGm_own (by omega)) (GGm_reg (by omega))
  have i1 : ∀ k, k < 100 → k ≠ 24 → (wi (wi m (pq p 24) ((nb j + (Hs j).length + kn : Nat) : Int)) 1105 ((a + 2 : Nat) : Int)).1 (pq p k) = m.1 (pq p k) := fun k h1 h2 => (if_neg (fun c => pq_n (by omega) c.symm)).trans (if_neg (pq_inj h2))
  have fm : ∀ k, 1106 ≤ k → k < 1120 → (wi (wi m (pq p 24) ((nb j + (Hs j).length + kn : Nat) : Int)) 1105 ((a + 2 : Nat) : Int)).1 k = m.1 k := fun k h1 h2 => (if_neg (by omega)).trans (if_neg (pq_n (by omega)))
  have h98 : A (wa (wa w 98 (60 * p + j) ((n + 1 : Nat) : Int)) 94 p ((nb j + (Hs j).length + kn : Nat) : Int)) 98 (60 * p + j) = ((n + 1 : Nat) : Int) := by rw [wa_rne (by omega), wa_sm (by omega) (by omega)]
  have e24 : F (wi (wi m (pq p 24) ((nb j + (Hs j).length + kn : Nat) : Int)) 1105 ((a + 2 : Nat) : Int)) (pq p 24) = ((nb j + (Hs j).length + kn : Nat) : Int) := by rw [wi_ne (fun c => pq_n (by omega) c.symm), wi_sm (by omega) (by omega)]
  have fa2 := FA_less (m2 := wi (wi m (pq p 24) ((nb j + (Hs j).length + kn : Nat) : Int)) 1105 ((a + 2 : Nat) : Int)) (w2 := wa (wa w 98 (60 * p + j) ((n + 1 : Nat) : Int)) 94 p ((nb j + (Hs j).length + kn : Nat) : Int)) fa hk (i1 21 (by omega) (by omega)) e24 (fun _ _ => rfl) rfl (by rw [fr.2.2.1 95 (by simp)]) (fun K r c1 c2 c3 c4 => by
    by_cases c5 : K = 98
    · subst c5
      have := c4 rfl
      exact (wa_at (by omega)).trans (wa_at (by omega))
    · rw [fr.2.2.1 K (by simp; omega)]) gg.2.1.1 gg.2.1.2.1
  have ct2 := CT_less (m2 := wi (wi m (pq p 24) ((nb j + (Hs j).length + kn : Nat) : Int)) 1105 ((a + 2 : Nat) : Int)) (w2 := wa (wa w 98 (60 * p + j) ((n + 1 : Nat) : Int)) 94 p ((nb j + (Hs j).length + kn : Nat) : Int)) ct hct hk (i1 28 (by omega) (by omega)) rfl rfl (by rw [fr.2.2.1 106 (by simp)]) (fun K h1 h2 => fr.2.2.1 K (by simp; omega)) gg.2.1.1 gg.2.1.2.1
  have gd : GDr none (wi (wi m (pq p 24) ((nb j + (Hs j).length + kn : Nat) : Int)) 1105 ((a + 2 : Nat) : Int)) (wa (wa w 98 (60 * p + j) ((n + 1 : Nat) : Int)) 94 p ((nb j + (Hs j).length + kn : Nat) : Int)) p (nb j) (Hs j) (tkO Os j kn j) := by
    rcases r7 with ⟨_, c2, c3⟩ | ⟨_, _, _, c, _⟩
    · refine Or.inl ⟨rfl, ?_, c3⟩
      show ((wi (wi m (pq p 24) ((nb j + (Hs j).length + kn : Nat) : Int)) 1105 ((a + 2 : Nat) : Int)).1 1112).toInt = _
      rw [fm 1112 (by omega) (by omega)]
      exact c2
    · cases c
  refine kk _ _ ?_ ⟨⟨fa2, ct2⟩, ⟨by rw [wi_sm (by omega) (by omega)], h98⟩, ?_, ⟨?_, ?_⟩, gd, ⟨?_, ?_, r10⟩, r11, ?_, ?_⟩ f3 gg (fun s => SC_ow s (fun k hk => i1 k (by omega) (by omega)) rfl (fun K h1 h2 => fr.2.2.1 K (by simp; omega)))
  · have pl2 : PLs b p m w U (nb j + (Hs j).length + kn + ((Os j).length - kn)) W Y := by
      rw [show nb j + (Hs j).length + kn + ((Os j).length - kn) = B by omega]
      exact pl
    exact PLs_cg (PLs_pc (z := ((a + 2 : Nat) : Int)) (PLs_forget pl2 (by omega))) (fun _ _ => rfl) (fun _ _ => rfl) (fun _ _ => rfl) (fun _ _ => rfl) (fun _ _ => rfl) (fun k hk => by
      by_cases c : k = 94
      · subst c
        rw [wa_s1, wa_s1]
      · rw [wa_at (by omega), wa_at (by simp at hk; omega), wa_at (by omega)]) (fun _ _ => rfl) (fun _ _ => rfl) (fun _ _ => rfl) (fun _ _ => rfl)
  · rw [tkO_j, ROs_eq gg.2.1.1]
    exact cr
  · show ((wi (wi m (pq p 24) ((nb j + (Hs j).length + kn : Nat) : Int)) 1105 ((a + 2 : Nat) : Int)).1 (pq p 9)).toInt = _
    rw [i1 9 (by omega) (by omega)]; exact r5
  · rw [FR.A fr (by simp)]; exact r6
  · show ((wi (wi m (pq p 24) ((nb j + (Hs j).length + kn : Nat) : Int)) 1105 ((a + 2 : Nat) : Int)).1 1108).toInt = _
    rw [fm 1108 (by omega) (by omega)]; exact r8
  · show ((wi (wi m (pq p 24) ((nb j + (Hs j).length + kn : Nat) : Int)) 1105 ((a + 2 : Nat) : Int)).1 1109).toInt = _
    rw [fm 1109 (by omega) (by omega)]; exact r9
  · rw [fm 1106 (by omega) (by omega)]; exact r12
  · rw [fm 1107 (by omega) (by omega)]; exact r13
end
