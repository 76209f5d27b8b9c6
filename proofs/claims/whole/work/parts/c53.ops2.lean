/-! a term is dropped; on from elsewhere; catches -/
set_option maxRecDepth 100000
section
variable {α β : Type} {b : Int → Nat → Nat → Prop} {N p k l U B W Y j a n : Nat} {m w m2 w2 m3 w3 : MS} {t x : Int64} {nb : Nat → Nat} {Hs Os : Nat → List Nat} {y : Option (Nat × Nat × Nat)} {Q : MS → α → MS → β → Prop} {K1 : MS → Option (MS × α)} {K2 : MS → Option (MS × β)} {v : Int}
theorem one_17 : fm_M_one N w (I v) (I 17) = bnd (fm_M_goTo N w (I v + 1)) (fun u7 _ => bnd (fm_M_take N u7) (fun u20 _ => some (u20, ()))) := rfl
theorem one_26 : fm_M_one N w (I v) (I 26) = bnd (fm_M_goTo N w (I v + 1)) (fun u7 _ => ck (inb (I v) (ln 25)) (br (decide ((u7.2.2.1 25 (I v).toNatClampNeg) = (-2))) (ck (inb (I v) (ln 26)) (ck (inb (u7.2.2.1 26 (I v).toNatClampNeg) (ln 26)) (bnd (fm_M_goTo N u7 (u7.2.2.1 26 (u7.2.2.1 26 (I v).toNatClampNeg).toNatClampNeg)) (fun u2 _ => some (u2, ()))))) (ck (inb (I v) (ln 25)) (bnd (fm_M_goTo N u7 (u7.2.2.1 25 (I v).toNatClampNeg)) (fun u2 _ => some (u2, ())))))) := rfl
theorem one_20 : fm_M_one N w (I v) (I 20) = bnd (fm_M_goTo N w (I v + 1)) (fun u7 _ => bnd (fm_M_otherRun N u7 (I v) (I 20)) (fun u8 _ => some (u8, ()))) := rfl
theorem one_30 : fm_M_one N w (I v) (I 30) = bnd (fm_M_goTo N w (I v + 1)) (fun u7 _ => bnd (fm_M_otherRun N u7 (I v) (I 30)) (fun u8 _ => some (u8, ()))) := rfl
/-- PLs does not speak of the node -/
theorem PLs_98 (pl : PLs b p m w U B W Y) {i : Nat} {z : Int} : PLs b p m (wa w 98 i z) U B W Y := PLs_cg pl (fun _ _ => rfl) (fun _ _ => rfl) (fun _ _ => rfl) (fun _ _ => rfl) (fun _ _ => rfl) (fun k hk => by
  show (if k = 98 then _ else w.2.2.1 k) p = _
  rw [if_neg (by simp at hk; omega)]) (fun _ _ => rfl) (fun _ _ => rfl) (fun _ _ => rfl) (fun _ _ => rfl)
theorem PLs_pc (pl : PLs b p m w U B W Y) {z : Int} : PLs b p (wi m 1105 z) w U B W Y := PLs_cg pl (fun k _ => if_neg (fun c => pq_n (by omega) c.symm)) (fun _ _ => rfl) (fun _ _ => rfl) (fun _ _ => rfl) (fun _ _ => rfl) (fun _ _ => rfl) (fun _ _ => rfl) (fun _ _ => rfl) (fun _ _ => rfl) (fun _ _ => rfl)
/-- a term is dropped -/
theorem op_drop (hp : p < 24) (pl : PLs b p m w U B (W + 1) Y) (ru : RUs m w p j nb Hs Os y a n) (hW : W + 1 ≤ 46000) (ha : a + 1 < 24000) (cr : ∃ f, CRs (A m 23) (ROs w) (w.2.2.2 34) f y (a + 1) (n + 1) (Hs j) (Os j))
    (c : ∀ m3 w3, PLs b p m3 w3 U B W Y → RUs m3 w3 p j nb Hs Os y (a + 1) (n + 1) → FGm p m m3 → FGw p j w w3 → PP Q (K1 m3) (K2 w3)) : PP Q (bnd (hm_Ma_value N m p (I 15)) (fun u _ => K1 u)) (bnd (fm_M_one N w (I ((n : Nat) : Int)) (I 17)) (fun u _ => K2 u)) := by
  obtain ⟨⟨fa, ct⟩, ⟨r2, r3⟩, -, ⟨r5, r6⟩, r7, ⟨r8, r9, r10⟩, r11, r12, r13⟩ := id ru
  have hj : j < 60 := fa.1.2.2
  rw [val15, one_17, show I ((n : Nat) : Int) + 1 = I ((n + 1 : Nat) : Int) from addN, I_F' r2, show I ((a : Nat) : Int) + 1 = I ((a + 1 : Nat) : Int) from addN, Co_e (k := a + 1) rfl ha, bnd_so, show (1 : Int32) = I 1 from rfl, drop_e (W := W + 1) (k := 1) (x := 1) pl.2.2.1.1 rfl (by omega), bnd_so, Nat.add_sub_cancel]
  have e5 : F (wi m (pq p 26) ((W : Nat) : Int)) 1105 = ((a : Nat) : Int) := by rw [wi_ne (pq_n (by omega))]; exact r2
  rw [lt_e, I_F' e5, show I ((a : Nat) : Int) + I 1 = I ((a + 1 : Nat) : Int) from addN, wi_e, bnd_so, bb_e]
  refine r_bnd (pk_mo (goto_r (N := N) (n := ((n + 1 : Nat) : Int)) hp r11 fa.1.2.1 hj) (fun w2 _ h => ?_))
  subst h
  have h92 : A (wa w 98 (60 * p + j) ((n + 1 : Nat) : Int)) 92 p = ((W + 1 : Nat) : Int) := by rw [wa_rne (by omega)]; exact pl.2.2.1.2.1
  rw [bb_e]
  refine r_bnd (pk_mo (take_r (N := N) (w := wa w 98 (60 * p + j) ((n + 1 : Nat) : Int)) hp r11 h92 (by omega)) (fun w3 r h => ?_))
  obtain ⟨rfl, -⟩ := h
  rw [bnd_so]
  have f3 : FGm p m (wi (wi m (pq p 26) ((W : Nat) : Int)) 1105 ((a + 1 : Nat) : Int)) := FGm.tr FGm.drop FGm.pc
  have g3 : FGw p j w (wa (wa w 98 (60 * p + j) ((n + 1 : Nat) : Int)) 92 p ((W : Nat) : Int)) := FGw.tr FGw.goto FGw.w92
  have nb9 := (CR_b cr.choose_spec).2.1
  have h98 : A (wa (wa w 98 (60 * p + j) ((n + 1 : Nat) : Int)) 92 p ((W : Nat) : Int)) 98 (60 * p + j) = ((n + 1 : Nat) : Int) := by rw [wa_rne (by omega), wa_sm (by omega) (by omega)]
  exact c _ _ (PLs_pc (PLs_drop (k := 1) (PLs_98 pl) (by omega))) (RUs_mv ru f3 g3 (by rw [wi_sm (by omega) (by omega)]) h98 cr) f3 g3
/-- on from elsewhere, both -/
theorem op_jump {t2 n2 : Nat} (hp : p < 24) (pl : PLs b p m w U B W Y) (ru : RUs m w p j nb Hs Os y a n) (ha : a + 1 < 24000) (hn : n < 100000) (ht : A m 23 (a + 1) = ((t2 : Nat) : Int)) (hn2 : n2 < 100000) (hd : A w 25 n = ((n2 : Nat) : Int) ∨ (A w 25 n = -2 ∧ ∃ r : Nat, A w 26 n = ((r : Nat) : Int) ∧ r < 100000 ∧ A w 26 r = ((n2 : Nat) : Int))) (cr : ∃ f, CRs (A m 23) (ROs w) (w.2.2.2 34) f y t2 n2 (Hs j) (Os j))
    (c : ∀ m3 w3, PLs b p m3 w3 U B W Y → RUs m3 w3 p j nb Hs Os y t2 n2 → FGm p m m3 → FGw p j w w3 → PP Q (K1 m3) (K2 w3)) : PP Q (bnd (hm_Ma_flow N m p (I 18)) (fun u _ => K1 u)) (bnd (fm_M_one N w (I ((n : Nat) : Int)) (I 26)) (fun u _ => K2 u)) := by
  obtain ⟨⟨fa, ct⟩, ⟨r2, r3⟩, -, ⟨r5, r6⟩, r7, ⟨r8, r9, r10⟩, r11, r12, r13⟩ := id ru
  have hj : j < 60 := fa.1.2.2
  have t24 := A_r m 23 (a + 1)
  rw [ht] at t24
  rw [flo18, one_26, show I ((n : Nat) : Int) + 1 = I ((n + 1 : Nat) : Int) from addN, I_F' r2, show I ((a : Nat) : Int) + 1 = I ((a + 1 : Nat) : Int) from addN, Co_e (k := a + 1) rfl ha, bnd_so, ht, lt_e, wi_e, bnd_so, bb_e]
  refine r_bnd (pk_mo (goto_r (N := N) (n := ((n + 1 : Nat) : Int)) hp r11 fa.1.2.1 hj) (fun w2 _ h => ?_))
  subst h
  have aw : ∀ K i, K ≠ 98 → A (wa w 98 (60 * p + j) ((n + 1 : Nat) : Int)) K i = A w K i := fun K i h => by rw [wa_rne h]
  have last : ∀ q : Option (MS × Unit), (PK (fun w3 (_ : Unit) => w3 = wa (wa w 98 (60 * p + j) ((n + 1 : Nat) : Int)) 98 (60 * p + j) ((n2 : Nat) : Int)) q) → PP Q (K1 (wi m 1105 ((t2 : Nat) : Int))) (bnd (bnd q (fun u2 _ => some (u2, ()))) (fun u (_ : Unit) => K2 u)) := fun q hq => by
    rw [bb_e]
    refine r_bnd (pk_mo hq (fun w3 _ h => ?_))
    subst h
    rw [bnd_so]
    have g3 : FGw p j w (wa (wa w 98 (60 * p + j) ((n + 1 : Nat) : Int)) 98 (60 * p + j) ((n2 : Nat) : Int)) := FGw.tr FGw.goto FGw.goto
    exact c _ _ (PLs_pc (PLs_98 (PLs_98 pl))) (RUs_mv ru FGm.pc g3 (by rw [wi_sm t24.1 t24.2]) (by rw [wa_sm (by omega) (by omega)]) cr) FGm.pc g3
  have g2 : PK (fun w3 (_ : Unit) => w3 = wa (wa w 98 (60 * p + j) ((n + 1 : Nat) : Int)) 98 (60 * p + j) ((n2 : Nat) : Int)) (fm_M_goTo N (wa w 98 (60 * p + j) ((n + 1 : Nat) : Int)) (I ((n2 : Nat) : Int))) := goto_r (N := N) (w := wa w 98 (60 * p + j) ((n + 1 : Nat) : Int)) hp r11 ((aw 95 p (by omega)).trans fa.1.2.1) hj
  refine rb_ck (fun _ => ?_)
  rw [tnI (n := n) rfl (by omega)]
  rcases hd with hd | ⟨hd, r, hr, hr1, hr2⟩
  · rw [I_A' ((aw 25 n (by omega)).trans hd), show (-2 : Int32) = I (-2) from rfl, decE (by omega) (by omega) (by omega) (by omega), decide_eq_false (by omega), br_f]
    exact rb_ck (fun _ => last _ g2)
  · rw [I_A' ((aw 25 n (by omega)).trans hd), show decide (I (-2) = -2) = true from rfl, br_t]
    refine rb_ck (fun _ => rb_ck (fun _ => ?_))
    rw [I_A' ((aw 26 n (by omega)).trans hr), tnI (n := r) rfl (by omega), I_A' ((aw 26 r (by omega)).trans hr2)]
    exact last _ g2
end
