/-! terms that wait, names: both sides -/
set_option maxRecDepth 100000
section
variable {b : Int → Nat → Nat → Prop} {N p k l U B W Y j : Nat} {m w m2 w2 : MS} {t x : Int64}
theorem put_r (hp : p < 24) (h3 : F w 133 = ((p : Nat) : Int)) (hW : A w 92 p = ((W : Nat) : Int)) (hb : W ≤ 46000) : PK (fun w2 (_ : Unit) => w2 = wa (wj w 91 (46000 * p + W) x) 92 p ((W + 1 : Nat) : Int)) (fm_M_put N w x) := by
  unfold fm_M_put fb_M_put_0
  have ix : (I ((p : Nat) : Int) * 46000 + I ((W : Nat) : Int)).toNatClampNeg = 46000 * p + W := by
    rw [show (46000 : Int32) = I 46000 from rfl, I_mul, I_add]
    exact tnI (n := 46000 * p + W) (by omega) (by omega)
  rw [I_F' h3, tnI (n := p) rfl (by omega), I_A' hW, ix]
  refine pk_ck (fun _ => pk_ck (fun _ => pk_lt ?_))
  rw [wj_e, show (wj w 91 (46000 * p + W) x).1 133 = I ((p : Nat) : Int) from I_F' h3, tnI (n := p) rfl (by omega), show (wj w 91 (46000 * p + W) x).2.2.1 92 p = I ((W : Nat) : Int) from I_A' hW, show I ((W : Nat) : Int) + 1 = I ((W + 1 : Nat) : Int) from addN]
  refine pk_ck (fun _ => pk_ck (fun _ => pk_lt ?_))
  rw [wa_e]
  exact pk_some rfl
theorem take_r (hp : p < 24) (h3 : F w 133 = ((p : Nat) : Int)) (hW : A w 92 p = ((W + 1 : Nat) : Int)) (hb : W ≤ 46000) : PK (fun w2 r => w2 = wa w 92 p ((W : Nat) : Int) ∧ r = w.2.2.2 91 (46000 * p + W)) (fm_M_take N w) := by
  unfold fm_M_take fb_M_take_0
  have ix : (I ((p : Nat) : Int) * 46000 + I ((W : Nat) : Int)).toNatClampNeg = 46000 * p + W := by
    rw [show (46000 : Int32) = I 46000 from rfl, I_mul, I_add]
    exact tnI (n := 46000 * p + W) (by omega) (by omega)
  rw [I_F' h3, tnI (n := p) rfl (by omega), I_A' hW, show I ((W + 1 : Nat) : Int) - 1 = I ((W : Nat) : Int) by rw [lit1, I_sub]; congr 1; omega]
  refine pk_ck (fun _ => pk_ck (fun _ => pk_lt ?_))
  have e2 : A (wa w 92 p ((W : Nat) : Int)) 92 p = ((W : Nat) : Int) := by rw [A_wa (by omega) (by omega), if_pos rfl, if_pos rfl]
  rw [wa_e, show (wa w 92 p ((W : Nat) : Int)).1 133 = I ((p : Nat) : Int) from I_F' h3, tnI (n := p) rfl (by omega), I_A' e2, ix]
  exact pk_ck (fun _ => pk_ck (fun _ => pk_some ⟨rfl, rfl⟩))
theorem top_r (hp : p < 24) (h3 : F w 133 = ((p : Nat) : Int)) (hW : A w 92 p = ((W : Nat) : Int)) (hb : W ≤ 46000) (hk : k < W) : PK (fun w2 r => w2 = w ∧ r = w.2.2.2 91 (46000 * p + (W - 1 - k))) (fm_M_top N w (I ((k : Nat) : Int))) := by
  unfold fm_M_top fb_M_top_0
  have ix : (I ((p : Nat) : Int) * 46000 + I ((W : Nat) : Int) - 1 - I ((k : Nat) : Int)).toNatClampNeg = 46000 * p + (W - 1 - k) := by
    rw [show (46000 : Int32) = I 46000 from rfl, lit1, I_mul, I_add, I_sub, I_sub]
    exact tnI (n := 46000 * p + (W - 1 - k)) (by omega) (by omega)
  rw [I_F' h3, tnI (n := p) rfl (by omega), I_A' hW, ix]
  exact pk_ck (fun _ => pk_ck (fun _ => pk_some ⟨rfl, rfl⟩))
theorem goto_r {n : Int} (hp : p < 24) (h3 : F w 133 = ((p : Nat) : Int)) (h95 : A w 95 p = ((j + 1 : Nat) : Int)) (hj : j < 60) : PK (fun w2 (_ : Unit) => w2 = wa w 98 (60 * p + j) n) (fm_M_goTo N w (I n)) := by
  unfold fm_M_goTo fb_M_goTo_0 fm_M_frame0 fb_M_frame0_0
  have ix : (I ((p : Nat) : Int) * 60 + I ((j + 1 : Nat) : Int) - 1).toNatClampNeg = 60 * p + j := by
    rw [show (60 : Int32) = I 60 from rfl, lit1, I_mul, I_add, I_sub]
    exact tnI (n := 60 * p + j) (by omega) (by omega)
  rw [I_F' h3, tnI (n := p) rfl (by omega), I_A' h95]
  refine pk_bnd (pk_ck (fun _ => pk_some ?_))
  refine pk_ck (fun _ => pk_lt ?_)
  rw [ix, wa_e]
  exact pk_some rfl
theorem push_m (hW : F m (pq p 26) = ((W : Nat) : Int)) (hl : F m (pq p 45) = ((l : Nat) : Int)) (h1 : W ≤ l) (h2 : l ≤ 1000000) : PK (fun m2 (_ : Unit) => FR [pq p 26, pq p 45] [] [] [pq p 35] m m2 ∧ F m2 (pq p 26) = ((W + 1 : Nat) : Int) ∧ ∀ i, i ≤ W → m2.2.2.2 (pq p 35) i = if i = W then t else m.2.2.2 (pq p 35) i) (hm_Fr_push N m p t) := by
  unfold hm_Fr_push hb_Fr_push_0
  have core : ∀ v : MS, FR [pq p 26, pq p 45] [] [] [pq p 35] m v → F v (pq p 26) = ((W : Nat) : Int) → (∀ i, i < W → v.2.2.2 (pq p 35) i = m.2.2.2 (pq p 35) i) → PK (fun m2 (_ : Unit) => FR [pq p 26, pq p 45] [] [] [pq p 35] m m2 ∧ F m2 (pq p 26) = ((W + 1 : Nat) : Int) ∧ ∀ i, i ≤ W → m2.2.2.2 (pq p 35) i = if i = W then t else m.2.2.2 (pq p 35) i) (hb_Fr_push_30 N () v p t) := fun v f e r => by
    unfold hb_Fr_push_30
    rw [I_F' e, tnI (n := W) rfl (by omega)]
    refine pk_ck (fun _ => pk_lt ?_)
    rw [wj_e, show (wj v (pq p 35) W t).1 (pq p 26) = I ((W : Nat) : Int) from I_F' e, show I ((W : Nat) : Int) + 1 = I ((W + 1 : Nat) : Int) from addN]
    refine pk_lt ?_
    rw [wi_e]
    refine pk_some ⟨FR.wi (FR.wj f (by simp)) (by simp), by rw [F_wi (by omega) (by omega), if_pos rfl], fun i hi => ?_⟩
    show (wj v (pq p 35) W t).2.2.2 (pq p 35) i = _
    rw [wj_row]
    by_cases c : i = W
    · rw [if_pos c, if_pos c]
    · rw [if_neg c, if_neg c, r i (by omega)]
  refine pk_br (fun _ => core m FR.rf hW (fun _ _ => rfl)) (fun _ => pk_ck (fun _ => pk_lt ?_))
  obtain ⟨g, e, hg⟩ := gJ_e (u := m) (q := p) (l := 45) (k := l) (j := 35) hl (by omega)
  rw [e]
  have f0 : FR [pq p 26, pq p 45] [] [] [pq p 35] m (upJ m (pq p 35) g) := ⟨fun _ _ => rfl, fun _ _ => rfl, fun _ _ => rfl, fun k hk => if_neg (fun c => hk (by rw [c]; exact List.mem_singleton.mpr rfl))⟩
  refine core _ (FR.wi f0 (List.mem_cons_of_mem _ (List.mem_singleton.mpr rfl))) ?_ (fun i hi => ?_)
  · rw [F_wi (by omega) (by omega), if_neg (pq_inj (by omega))]
    exact hW
  · show (if pq p 35 = pq p 35 then g else _) i = _
    rw [if_pos rfl]
    exact hg i (by omega)
/-- one more waits -/
theorem PLs_push (q : PLs b p m w U B W Y) (r : RTb b t x) (f : FR [pq p 26, pq p 45] [] [] [pq p 35] m m2) (h1 : F m2 (pq p 26) = ((W + 1 : Nat) : Int)) (h2 : ∀ i, i ≤ W → m2.2.2.2 (pq p 35) i = if i = W then t else m.2.2.2 (pq p 35) i) : PLs b p m2 (wa (wj w 91 (46000 * p + W) x) 92 p ((W + 1 : Nat) : Int)) U B (W + 1) Y := by
  obtain ⟨⟨⟨p1, p2, p3⟩, p4, p5⟩, ⟨p6, p7, p8⟩, ⟨p9, p10, p11⟩, p12, p13, p14⟩ := q
  have i1 : ∀ k, k < 100 → k ≠ 26 → k ≠ 45 → m2.1 (pq p k) = m.1 (pq p k) := fun k h0 h1 h2 => f.1 _ (by
    simp
    exact ⟨pq_inj h1, pq_inj h2⟩)
  have fF : ∀ k, k < 100 → k ≠ 26 → k ≠ 45 → F m2 (pq p k) = F m (pq p k) := fun k h0 h1 h2 => congrArg Int32.toInt (i1 k h0 h1 h2)
  have j1 : ∀ k, k ≠ 35 → m2.2.2.2 (pq p k) = m.2.2.2 (pq p k) := fun k h => f.2.2.2 _ (by simp; exact pq_inj h)
  have aw : ∀ k i, k ≠ 92 → A (wa (wj w 91 (46000 * p + W) x) 92 p ((W + 1 : Nat) : Int)) k i = A w k i := fun k i h => by
    show ((if k = 92 then _ else w.2.2.1 k) i).toInt = _
    rw [if_neg h]
    rfl
  have jw : ∀ k, k ≠ 91 → (wa (wj w 91 (46000 * p + W) x) 92 p ((W + 1 : Nat) : Int)).2.2.2 k = w.2.2.2 k := fun k h => if_neg h
  refine ⟨⟨⟨by rw [fF 4 (by omega) (by omega) (by omega)]; exact p1, by rw [aw 89 _ (by omega)]; exact p2, p3⟩, ?_, ?_⟩, ⟨by rw [fF 24 (by omega) (by omega) (by omega)]; exact p6, by rw [aw 94 _ (by omega)]; exact p7, fun i hi => by rw [j1 33 (by omega), jw 93 (by omega)]; exact p8 i hi⟩, ⟨h1, ?_, fun i hi => ?_⟩, by rw [fF 7 (by omega) (by omega) (by omega)]; exact p12, by rw [aw 108 _ (by omega)]; exact p13, fun i hi => by rw [j1 6 (by omega), jw 107 (by omega)]; exact p14 i hi⟩
  · rw [j1 2 (by omega)]
    have e : hp (wa (wj w 91 (46000 * p + W) x) 92 p ((W + 1 : Nat) : Int)) p = hp w p := by unfold hp; rw [jw 88 (by omega)]
    rw [e]
    exact p4
  · rw [i1 5 (by omega) (by omega) (by omega)]
    rw [wa_21 (by omega)]
    exact p5
  · have rg := F_r m2 (pq p 26)
    rw [h1] at rg
    exact wa_sm rg.1 rg.2
  · rw [h2 i (by omega)]
    show RTb b _ ((wj w 91 (46000 * p + W) x).2.2.2 91 (46000 * p + i))
    rw [wj_row]
    by_cases c : i = W
    · rw [if_pos c, if_pos (by omega)]
      exact r
    · rw [if_neg c, if_neg (by omega)]
      exact p11 i (by omega)
/-- fewer wait -/
theorem PLs_drop (q : PLs b p m w U B (W + k) Y) (hW : W + k ≤ 100000) : PLs b p (wi m (pq p 26) ((W : Nat) : Int)) (wa w 92 p ((W : Nat) : Int)) U B W Y := by
  obtain ⟨⟨⟨p1, p2, p3⟩, p4, p5⟩, ⟨p6, p7, p8⟩, ⟨p9, p10, p11⟩, p12, p13, p14⟩ := q
  have fF : ∀ k, k ≠ 26 → F (wi m (pq p 26) ((W : Nat) : Int)) (pq p k) = F m (pq p k) := fun k h => by rw [F_wi (by omega) (by omega), if_neg (pq_inj h)]
  have aw : ∀ k i, k ≠ 92 → A (wa w 92 p ((W : Nat) : Int)) k i = A w k i := fun k i h => by rw [A_wa (by omega) (by omega), if_neg h]
  refine ⟨⟨⟨by rw [fF 4 (by omega)]; exact p1, by rw [aw 89 _ (by omega)]; exact p2, p3⟩, p4, ?_⟩, ⟨by rw [fF 24 (by omega)]; exact p6, by rw [aw 94 _ (by omega)]; exact p7, p8⟩, ⟨by rw [F_wi (by omega) (by omega), if_pos rfl], by rw [A_wa (by omega) (by omega), if_pos rfl, if_pos rfl], fun i hi => p11 i (by omega)⟩, by rw [fF 7 (by omega)]; exact p12, by rw [aw 108 _ (by omega)]; exact p13, p14⟩
  rw [wi_1 (pq_inj (by omega)), wa_21 (by omega)]
  exact p5
/-- fewer names -/
theorem PLs_forget (q : PLs b p m w U (B + k) W Y) (hW : B + k ≤ 100000) : PLs b p (wi m (pq p 24) ((B : Nat) : Int)) (wa w 94 p ((B : Nat) : Int)) U B W Y := by
  obtain ⟨⟨⟨p1, p2, p3⟩, p4, p5⟩, ⟨p6, p7, p8⟩, ⟨p9, p10, p11⟩, p12, p13, p14⟩ := q
  have fF : ∀ k, k ≠ 24 → F (wi m (pq p 24) ((B : Nat) : Int)) (pq p k) = F m (pq p k) := fun k h => by rw [F_wi (by omega) (by omega), if_neg (pq_inj h)]
  have aw : ∀ k i, k ≠ 94 → A (wa w 94 p ((B : Nat) : Int)) k i = A w k i := fun k i h => by rw [A_wa (by omega) (by omega), if_neg h]
  refine ⟨⟨⟨by rw [fF 4 (by omega)]; exact p1, by rw [aw 89 _ (by omega)]; exact p2, p3⟩, p4, ?_⟩, ⟨by rw [F_wi (by omega) (by omega), if_pos rfl], by rw [A_wa (by omega) (by omega), if_pos rfl, if_pos rfl], fun i hi => p8 i (by omega)⟩, ⟨by rw [fF 26 (by omega)]; exact p9, by rw [aw 92 _ (by omega)]; exact p10, p11⟩, by rw [fF 7 (by omega)]; exact p12, by rw [aw 108 _ (by omega)]; exact p13, p14⟩
  rw [wi_1 (pq_inj (by omega)), wa_21 (by omega)]
  exact p5
/-- a name that is looked for from above, there -/
theorem termOf_s (ha : ∀ i, k < i → i < B → A m (pq p 32) i ≠ ((l : Nat) : Int)) (he : A m (pq p 32) k = ((l : Nat) : Int)) (hl : l < 2147483648) (hk : k < B) (hB : B ≤ 100000) : ∀ (M i : Nat), k ≤ i → i < B → PK (fun m2 r => m2 = m ∧ r = m.2.2.2 (pq p 33) k) (hg_Fr_termOf N M m p (I ((l : Nat) : Int)) (I ((i : Nat) : Int))) := by
  intro M
  induction M with
  | zero => intro i _ _; exact pk_none
  | succ M ih =>
    intro i h1 h2
    show PK _ (hb_Fr_termOf_7 N (hg_Fr_termOf N M) m p (I ((l : Nat) : Int)) (I ((i : Nat) : Int)))
    unfold hb_Fr_termOf_7
    rw [lit0]
    refine p_less ⟨by omega, by omega⟩ ⟨by decide, by decide⟩ (fun c => absurd c (by omega)) (fun _ => pk_ck (fun _ => ?_))
    rw [tnI (n := i) rfl (by omega), I_A (k := pq p 32)]
    refine p_eq (A_r _ _ _) ⟨by omega, by omega⟩ (fun c => ?_) (fun c => ?_)
    · have : i = k := by
        apply Classical.byContradiction
        intro z
        exact ha i (by omega) h2 c
      subst this
      exact pk_ck (fun _ => pk_some ⟨rfl, rfl⟩)
    · have ik : i ≠ k := fun z => c (by rw [z]; exact he)
      rw [show I ((i : Nat) : Int) + -1 = I ((i - 1 : Nat) : Int) by rw [litm1, I_add]; congr 1; omega]
      exact ih (i - 1) (by omega) (by omega)
end
