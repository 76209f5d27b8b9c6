/-! andalso, orelse -/
set_option maxRecDepth 100000
section
variable {α β : Type} {b : Int → Nat → Nat → Prop} {N p k l U B W Y j a n t2 n2 : Nat} {m w m2 w2 m3 w3 : MS} {t x : Int64} {nb : Nat → Nat} {Hs Os : Nat → List Nat} {y : Option (Nat × Nat × Nat)} {Q : MS → α → MS → β → Prop} {K1 : MS → Option (MS × α)} {K2 : MS → Option (MS × β)} {v : Int}
theorem one_9 : fm_M_one N w (I v) (I 9) = bnd (fm_M_goTo N w (I v + 1)) (fun u7 _ => bnd (fm_M_otherRun N u7 (I v) (I 9)) (fun u8 _ => some (u8, ()))) := rfl
theorem one_10 : fm_M_one N w (I v) (I 10) = bnd (fm_M_goTo N w (I v + 1)) (fun u7 _ => bnd (fm_M_otherRun N u7 (I v) (I 10)) (fun u8 _ => some (u8, ()))) := rfl
/-- sg: what is dropped (0: TRUE, 1: FALSE) -/
theorem oth_9 {z : Int32} : fm_M_otherRun N w z (I 9) = bnd (fm_M_top N w 0) (fun u10 r10 => bnd (fm_M_isTruth N u10 r10) (fun u11 r11 => br (decide (r11 = 0)) (bnd (fr_M_error N u11 11) (fun u12 _ => some (u12, ()))) (bnd (fm_M_truth N u11 0) (fun u7 r7 => br (decide ((lg_cmp r10 r7) = 0)) (ck (inb z (ln 25)) (bnd (fm_M_goTo N u7 (u7.2.2.1 25 z.toNatClampNeg)) (fun u9 _ => some (u9, ())))) (bnd (fm_M_take N u7) (fun u8 _ => some (u8, ()))))))) := rfl
theorem oth_10 {z : Int32} : fm_M_otherRun N w z (I 10) = bnd (fm_M_top N w 0) (fun u10 r10 => bnd (fm_M_isTruth N u10 r10) (fun u11 r11 => br (decide (r11 = 0)) (bnd (fr_M_error N u11 11) (fun u12 _ => some (u12, ()))) (bnd (fm_M_truth N u11 1) (fun u7 r7 => br (decide ((lg_cmp r10 r7) = 0)) (ck (inb z (ln 25)) (bnd (fm_M_goTo N u7 (u7.2.2.1 25 z.toNatClampNeg)) (fun u9 _ => some (u9, ())))) (bnd (fm_M_take N u7) (fun u8 _ => some (u8, ()))))))) := rfl
theorem op_hinge {sc sr : Int} {dr : Int} (hk : (sc = 13 ∧ sr = 9 ∧ dr = 0) ∨ (sc = 14 ∧ sr = 10 ∧ dr = 1)) (hpp : p < 24) (pl : PLs b p m w U B (W + 1) Y) (ru : RUs m w p j nb Hs Os y a n) (hW : W + 1 < 46000) (hl : F m (pq p 45) = ((l : Nat) : Int)) (hl2 : W + 1 ≤ l ∧ l ≤ 1000000) (ha : a + 1 < 24000) (hn : n < 100000) (ht : A m 23 (a + 1) = ((t2 : Nat) : Int)) (hd : A w 25 n = ((n2 : Nat) : Int)) (cr : ∃ f, CRs (A m 23) (ROs w) (w.2.2.2 34) f y (a + 2) (n + 1) (Hs j) (Os j)) (cr2 : ∃ f, CRs (A m 23) (ROs w) (w.2.2.2 34) f y t2 n2 (Hs j) (Os j))
    (c : ∀ W3 a3 n3 m3 w3, (W3 = W ∨ W3 = W + 1) → PLs b p m3 w3 U B W3 Y → RUs m3 w3 p j nb Hs Os y a3 n3 → FGm p m m3 → FGw p j w w3 → PP Q (K1 m3) (K2 w3))
    (c0 : PP Q (bnd (hm_Ma_wrong N m p 11) (fun u _ => K1 u)) (bnd (fr_M_error N (wa w 98 (60 * p + j) ((n + 1 : Nat) : Int)) 11) (fun u _ => K2 u))) : PP Q (bnd (hm_Ma_value N m p (I sc)) (fun u _ => K1 u)) (bnd (fm_M_one N w (I ((n : Nat) : Int)) (I sr)) (fun u _ => K2 u)) := by
  obtain ⟨⟨fa, ct⟩, ⟨r2, r3⟩, -, ⟨r5, r6⟩, r7, ⟨r8, r9, r10⟩, r11, r12, r13⟩ := id ru
  have hj : j < 60 := fa.1.2.2
  have t24 := A_r m 23 (a + 1)
  rw [ht] at t24
  have n24 := A_r w 25 n
  rw [hd] at n24
  have rt := pl.2.2.1.2.2 W (by omega)
  have be : hm_Fr_below N m p 0 = some (m, m.2.2.2 (pq p 35) W) := by
    have := below_e (N := N) (x := 0) (k := 0) (W := W + 1) (l := l) pl.2.2.1.1 hl hl2.1 hl2.2 rfl (by omega)
    rw [show W + 1 - 1 - 0 = W by omega] at this
    exact this
  have rt' : RTb b (m.2.2.2 (pq p 35) W) ((wa w 98 (60 * p + j) ((n + 1 : Nat) : Int)).2.2.2 91 (46000 * p + W)) := rt
  have aw : ∀ K i, K ≠ 98 → A (wa w 98 (60 * p + j) ((n + 1 : Nat) : Int)) K i = A w K i := fun K i h => by rw [wa_rne h]
  -- there
  have cl : hm_Ma_value N m p (I sc) = (if m.2.2.2 (pq p 35) W = mk 1 dr then some (wi (wi m (pq p 26) ((W : Nat) : Int)) 1105 ((a + 2 : Nat) : Int), ()) else if m.2.2.2 (pq p 35) W = mk 1 (1 - dr) then some (wi m 1105 ((t2 : Nat) : Int), ()) else bnd (hm_Ma_wrong N m p 11) (fun u _ => some (u, ()))) := by
    have dp : hm_Fr_drop N m p 1 = some (wi m (pq p 26) ((W : Nat) : Int), ()) := by
      have := drop_e (N := N) (W := W + 1) (k := 1) (x := 1) pl.2.2.1.1 rfl (by omega)
      rw [Nat.add_sub_cancel] at this
      exact this
    have e5 : F (wi m (pq p 26) ((W : Nat) : Int)) 1105 = ((a : Nat) : Int) := by rw [wi_ne (pq_n (by omega))]; exact r2
    have h36 : ∀ (z : Int32) (tr : Int64), hm_Ma_truth N m z = some (m, tr) → hb_Ma_hinge_36 N () m p z (I ((t2 : Nat) : Int)) (m.2.2.2 (pq p 35) W) = (if m.2.2.2 (pq p 35) W = tr then some (wi (wi m (pq p 26) ((W : Nat) : Int)) 1105 ((a + 2 : Nat) : Int), ()) else some (wi m 1105 ((t2 : Nat) : Int), ())) := fun z tr hz => by
      unfold hb_Ma_hinge_36
      rw [hz, bnd_so]
      by_cases e : m.2.2.2 (pq p 35) W = tr
      · rw [if_pos e, dec_lg e, br_t, dp, bnd_so, I_F' e5, show I ((a : Nat) : Int) + 2 = I ((a + 2 : Nat) : Int) from addN, wi_e]
        rfl
      · rw [if_neg e, dec_lg0 e, br_f, wi_e]
        rfl
    have gen : ∀ (z : Int32) (d : Int), hm_Ma_truth N m z = some (m, mk 1 d) → (d = 0 ∨ d = 1) → bnd (hm_Ma_hinge N m p z (I ((t2 : Nat) : Int))) (fun u23 _ => some (u23, ())) = (if m.2.2.2 (pq p 35) W = mk 1 d then some (wi (wi m (pq p 26) ((W : Nat) : Int)) 1105 ((a + 2 : Nat) : Int), ()) else if m.2.2.2 (pq p 35) W = mk 1 (1 - d) then some (wi m 1105 ((t2 : Nat) : Int), ()) else bnd (hm_Ma_wrong N m p 11) (fun u _ => some (u, ()))) := fun z d hz hd => by
      unfold hm_Ma_hinge hb_Ma_hinge_0
      rw [be, bnd_so, show hm_Ma_atom N m 0 = some (m, mk 1 0) from rfl, bnd_so, show hm_Ma_atom N m 1 = some (m, mk 1 1) from rfl, bnd_so, h36 z _ hz]
      by_cases e0 : m.2.2.2 (pq p 35) W = mk 1 0
      · rw [dec_lg e0, br_t]
        rcases hd with rfl | rfl
        · rw [if_pos e0, if_pos e0]
          rfl
        · have e1 : m.2.2.2 (pq p 35) W ≠ mk 1 1 := fun z => mk10_11 (e0.symm.trans z)
          rw [if_neg e1, if_neg e1, if_pos (show m.2.2.2 (pq p 35) W = mk 1 (1 - 1) from e0)]
          rfl
      · rw [dec_lg0 e0, br_f]
        by_cases e1 : m.2.2.2 (pq p 35) W = mk 1 1
        · rw [dec_lg e1, br_t]
          rcases hd with rfl | rfl
          · rw [if_neg e0, if_neg e0, if_pos (show m.2.2.2 (pq p 35) W = mk 1 (1 - 0) from e1)]
            rfl
          · rw [if_pos e1, if_pos e1]
            rfl
        · rw [dec_lg0 e1, br_f]
          rcases hd with rfl | rfl
          · rw [if_neg e0, if_neg (show m.2.2.2 (pq p 35) W ≠ mk 1 (1 - 0) from e1), bb_e]
            rfl
          · rw [if_neg e1, if_neg (show m.2.2.2 (pq p 35) W ≠ mk 1 (1 - 1) from e0), bb_e]
            rfl
    rcases hk with ⟨rfl, rfl, rfl⟩ | ⟨rfl, rfl, rfl⟩
    · rw [val13, I_F' r2, show I ((a : Nat) : Int) + 1 = I ((a + 1 : Nat) : Int) from addN, Co_e (k := a + 1) rfl ha, bnd_so, ht]
      exact gen 1 0 rfl (Or.inl rfl)
    · rw [val14, I_F' r2, show I ((a : Nat) : Int) + 1 = I ((a + 1 : Nat) : Int) from addN, Co_e (k := a + 1) rfl ha, bnd_so, ht]
      exact gen 0 1 rfl (Or.inr rfl)
  -- here
  have dr01 : dr = 0 ∨ dr = 1 := by omega
  have rf1 : PP Q (bnd (hm_Ma_value N m p (I sc)) (fun u _ => K1 u)) (bnd (bnd (fm_M_goTo N w (I ((n + 1 : Nat) : Int))) (fun u7 _ => bnd (bnd (fm_M_top N u7 0) (fun u10 r10 => bnd (fm_M_isTruth N u10 r10) (fun u11 r11 => br (decide (r11 = 0)) (bnd (fr_M_error N u11 11) (fun u12 _ => some (u12, ()))) (bnd (some (u11, mk 1 (1 - dr))) (fun u7 r7 => br (decide ((lg_cmp r10 r7) = 0)) (ck (inb (I ((n : Nat) : Int)) (ln 25)) (bnd (fm_M_goTo N u7 (u7.2.2.1 25 (I ((n : Nat) : Int)).toNatClampNeg)) (fun u9 _ => some (u9, ())))) (bnd (fm_M_take N u7) (fun u8 _ => some (u8, ())))))))) (fun u8 _ => some (u8, ())))) (fun u _ => K2 u)) := by
    rw [bb_e]
    refine r_bnd (pk_mo (goto_r (N := N) (n := ((n + 1 : Nat) : Int)) hpp r11 fa.1.2.1 hj) (fun w2 _ h => ?_))
    subst h
    have h92 : A (wa w 98 (60 * p + j) ((n + 1 : Nat) : Int)) 92 p = ((W + 1 : Nat) : Int) := by rw [aw 92 p (by omega)]; exact pl.2.2.1.2.1
    rw [bb_e, bb_e]
    refine r_bnd (pk_mo (top_r (N := N) (w := wa w 98 (60 * p + j) ((n + 1 : Nat) : Int)) (k := 0) hpp r11 h92 (by omega) (by omega)) (fun w3 r h => ?_))
    obtain ⟨rfl, rfl⟩ := h
    rw [show W + 1 - 1 - 0 = W by omega]
    generalize hx : (wa w 98 (60 * p + j) ((n + 1 : Nat) : Int)).2.2.2 91 (46000 * p + W) = xx at *
    by_cases e0 : m.2.2.2 (pq p 35) W = mk 1 dr
    · have x0 := (RTb_at rt').mp e0
      have x1 : xx ≠ mk 1 (1 - dr) := fun z => by
        rw [x0] at z
        rcases dr01 with rfl | rfl
        · exact mk10_11 z
        · exact mk10_11 z.symm
      rw [cl, if_pos e0, isTr_1 (by rcases dr01 with rfl | rfl; exact Or.inl x0; exact Or.inr x0), bnd_so, bnd_so, show decide ((1 : Int32) = 0) = false from rfl, br_f, bnd_so, dec_lg0 x1, br_f, bb_e]
      refine r_bnd (pk_mo (take_r (N := N) (w := wa w 98 (60 * p + j) ((n + 1 : Nat) : Int)) hpp r11 h92 (by omega)) (fun w3 r h => ?_))
      obtain ⟨rfl, -⟩ := h
      rw [bnd_so]
      have f3 : FGm p m (wi (wi m (pq p 26) ((W : Nat) : Int)) 1105 ((a + 2 : Nat) : Int)) := FGm.tr FGm.drop FGm.pc
      have g3 : FGw p j w (wa (wa w 98 (60 * p + j) ((n + 1 : Nat) : Int)) 92 p ((W : Nat) : Int)) := FGw.tr FGw.goto FGw.w92
      have h98 : A (wa (wa w 98 (60 * p + j) ((n + 1 : Nat) : Int)) 92 p ((W : Nat) : Int)) 98 (60 * p + j) = ((n + 1 : Nat) : Int) := by rw [wa_rne (by omega), wa_sm (by omega) (by omega)]
      exact c W (a + 2) (n + 1) _ _ (Or.inl rfl) (PLs_pc (PLs_drop (k := 1) (PLs_98 pl) (by omega))) (RUs_mv ru f3 g3 (by rw [wi_sm (by omega) (by omega)]) h98 cr) f3 g3
    · by_cases e1 : m.2.2.2 (pq p 35) W = mk 1 (1 - dr)
      · have x1 := (RTb_at rt').mp e1
        rw [cl, if_neg e0, if_pos e1, isTr_1 (by rcases dr01 with rfl | rfl; exact Or.inr x1; exact Or.inl x1), bnd_so, bnd_so, show decide ((1 : Int32) = 0) = false from rfl, br_f, bnd_so, dec_lg x1, br_t]
        refine rb_ck (fun _ => ?_)
        rw [tnI (n := n) rfl (by omega), I_A' ((aw 25 n (by omega)).trans hd), bb_e]
        refine r_bnd (pk_mo (goto_r (N := N) (n := ((n2 : Nat) : Int)) (w := wa w 98 (60 * p + j) ((n + 1 : Nat) : Int)) hpp r11 ((aw 95 p (by omega)).trans fa.1.2.1) hj) (fun w3 _ h => ?_))
        subst h
        rw [bnd_so]
        have g3 : FGw p j w (wa (wa w 98 (60 * p + j) ((n + 1 : Nat) : Int)) 98 (60 * p + j) ((n2 : Nat) : Int)) := FGw.tr FGw.goto FGw.goto
        exact c (W + 1) t2 n2 _ _ (Or.inr rfl) (PLs_pc (PLs_98 (PLs_98 pl))) (RUs_mv ru FGm.pc g3 (by rw [wi_sm t24.1 t24.2]) (by rw [wa_sm n24.1 n24.2]) cr2) FGm.pc g3
      · have y0 : xx ≠ mk 1 0 := fun z => by
          rcases dr01 with rfl | rfl
          · exact e0 ((RTb_at rt').mpr z)
          · exact e1 ((RTb_at rt').mpr z)
        have y1 : xx ≠ mk 1 1 := fun z => by
          rcases dr01 with rfl | rfl
          · exact e1 ((RTb_at rt').mpr z)
          · exact e0 ((RTb_at rt').mpr z)
        rw [cl, if_neg e0, if_neg e1, isTr_0 y0 y1, bnd_so, show decide ((0 : Int32) = 0) = true from rfl, br_t, bb_e, bb_e]
        exact c0
  rcases hk with ⟨rfl, rfl, rfl⟩ | ⟨rfl, rfl, rfl⟩
  · rw [one_9, show I ((n : Nat) : Int) + 1 = I ((n + 1 : Nat) : Int) from addN]
    exact rf1
  · rw [one_10, show I ((n : Nat) : Int) + 1 = I ((n + 1 : Nat) : Int) from addN]
    exact rf1
end
