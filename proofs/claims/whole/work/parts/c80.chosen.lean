/-! a part has been chosen -/
set_option maxRecDepth 100000
/-- a message is taken, there -/
def tkMs (m : MS) (p tr Y : Nat) : MS := wl (wi (wi (upJ m (pq p 6) (va_cpy (m.2.2.2 (pq p 6)) (m.2.2.2 (pq p 6)) (tr + 1) tr (Y - tr))) (pq p 7) ((Y : Nat) : Int)) (pq p 8) 0) (pq p 10) (-1)
section
variable {b : Int → Nat → Nat → Prop} {N p j k t U B W Y : Nat} {m w m2 w2 : MS} {nb : Nat → Nat} {Hs Os : Nat → List Nat} {l v : Int} {z : Int32}
theorem GGw_reg {k : Nat} (h1 : 132 < k) (h2 : k ≠ 150 ∧ k ≠ 164 ∧ k ≠ 165) : GGw p w (wi w k v) := ⟨fun _ _ => ⟨fun _ _ _ => rfl, fun _ _ => rfl, fun _ _ _ => rfl, rfl, fun _ _ _ => rfl, fun _ _ _ => rfl, fun _ _ _ => rfl, fun _ _ _ => rfl⟩, ⟨fun _ _ => rfl, rfl, rfl, rfl, if_neg (by omega)⟩, if_neg (Ne.symm h2.1), fun _ _ => rfl, rfl, fun _ _ => rfl, fun l hl => if_neg (by omega)⟩
theorem s30_21 {K : Nat} (h : K ≠ pq p 30) : (s30 m p k z).2.2.1 K = m.2.2.1 K := if_neg h
theorem GGm_s30 : GGm p m (s30 m p k z) := ⟨fun d hd l hl => ⟨rfl, rfl, s30_21 (fun c => hd (pq_e hl (by omega) c).1), rfl⟩, ⟨s30_21 (by unfold pq; omega), rfl, s30_21 (by unfold pq; omega), s30_21 (by unfold pq; omega)⟩, rfl, s30_21 (by unfold pq; omega), rfl, fun K hK => s30_21 (by unfold pq; omega), fun _ _ => rfl⟩
/-- the line of the CLAUSE that goes -/
theorem FA_line (fa : FAs m w p j nb Hs Os) (h21 : F m2 (pq p 21) = F m (pq p 21)) (h24 : F m2 (pq p 24) = F m (pq p 24)) (r30 : ∀ i, i ≠ 5 * j + 1 → A m2 (pq p 30) i = A m (pq p 30) i) (e30 : A m2 (pq p 30) (5 * j + 1) = l) (r32 : m2.2.2.1 (pq p 32) = m.2.2.1 (pq p 32)) (e23 : m2.2.2.1 23 = m.2.2.1 23) (wR : ∀ K i, 95 ≤ K → K ≤ 101 → ¬ (K = 97 ∧ i = 60 * p + j) → ¬ (K = 98 ∧ i = 60 * p + j) → A w2 K i = A w K i) (e97 : A w2 97 (60 * p + j) = ((k : Nat) : Int)) (h44 : A w 44 k = ((t : Nat) : Int)) (h8 : l = A w 8 t) (pr : ∀ K, PRr K → w2.2.2.1 K = w.2.2.1 K) (h34 : w2.2.2.2 34 = w.2.2.2 34) : FAs m2 w2 p j nb Hs Os := by
  obtain ⟨⟨f1, f2, f3⟩, f4, f5, f6⟩ := fa
  have hP : ∀ K, PRr K → A w2 K = A w K := fun K a => by funext i; show (w2.2.2.1 K i).toInt = _; rw [pr K a]; rfl
  have h23 : A m2 23 = A m 23 := by funext i; show (m2.2.2.1 23 i).toInt = _; rw [e23]; rfl
  refine ⟨⟨by rw [h21]; exact f1, by rw [wR 95 p (by omega) (by omega) (by omega) (by omega)]; exact f2, f3⟩, fun r hr => ?_, fun r hr => ?_, by rw [h24]; exact f6⟩
  · obtain ⟨g1, g2, ⟨g3, g4⟩, g5, g6, g7⟩ := f4 r hr
    refine ⟨by rw [r30 _ (by omega), wR 96 _ (by omega) (by omega) (by omega) (by omega)]; exact g1, ?_, ⟨by rw [r30 _ (by omega)]; exact g3, by rw [wR 99 _ (by omega) (by omega) (by omega) (by omega)]; exact g4⟩, by rw [r30 _ (by omega), wR 100 _ (by omega) (by omega) (by omega) (by omega)]; exact g5, by rw [wR 101 _ (by omega) (by omega) (by omega) (by omega)]; exact g6, ?_⟩
    · by_cases c : r = j
      · subst c
        exact Or.inr ⟨k, t, e97, by rw [hP 44 (by unfold PRr; omega)]; exact h44, by rw [e30, hP 8 (by unfold PRr; omega)]; exact h8⟩
      · rw [wR 97 _ (by omega) (by omega) (by omega) (by omega), r30 _ (by omega)]
        rcases g2 with g2 | ⟨k2, t2, k1, k3, k4⟩
        · exact Or.inl g2
        · exact Or.inr ⟨k2, t2, k1, by rw [hP 44 (by unfold PRr; omega)]; exact k3, by rw [hP 8 (by unfold PRr; omega)]; exact k4⟩
    · intro i x hx
      show (m2.2.2.1 (pq p 32) _).toInt = _
      rw [r32]
      exact g7 i x hx
  · obtain ⟨g1, a, n, g2, g3, f, g4⟩ := f5 r hr
    exact ⟨g1, a, n, by rw [r30 _ (by omega)]; exact g2, by rw [wR 98 _ (by omega) (by omega) (by omega) (by omega)]; exact g3, f, by rw [h23, ROs_eq pr, h34]; exact g4⟩
theorem CT_same (ct : CTs m w p j nb Hs Os) (h28 : m2.1 (pq p 28) = m.1 (pq p 28)) (h37 : m2.2.2.1 (pq p 37) = m.2.2.1 (pq p 37)) (e23 : m2.2.2.1 23 = m.2.2.1 23) (wR : ∀ K, 102 ≤ K → K ≤ 106 → w2.2.2.1 K = w.2.2.1 K) (pr : ∀ K, PRr K → w2.2.2.1 K = w.2.2.1 K) (h34 : w2.2.2.2 34 = w.2.2.2 34) : CTs m2 w2 p j nb Hs Os := by
  obtain ⟨n, c1, c2, c3, c5, c4⟩ := ct
  have hP : ∀ K, PRr K → A w2 K = A w K := fun K a => by funext i; show (w2.2.2.1 K i).toInt = _; rw [pr K a]; rfl
  have h23 : A m2 23 = A m 23 := by funext i; show (m2.2.2.1 23 i).toInt = _; rw [e23]; rfl
  have a37 : A m2 (pq p 37) = A m (pq p 37) := by funext i; show (m2.2.2.1 (pq p 37) i).toInt = _; rw [h37]; rfl
  have wA : ∀ K i, (102 ≤ K ∧ K ≤ 106) → A w2 K i = A w K i := fun K i h => by show (w2.2.2.1 K i).toInt = _; rw [wR K h.1 h.2]; rfl
  refine ⟨n, (congrArg Int32.toInt h28).trans c1, by rw [wA 106 _ (by omega)]; exact c2, c3, fun c hc => by rw [wA 102 _ (by omega), wA 102 _ (by omega), wA 105 _ (by omega), wA 105 _ (by omega)]; exact c5 c hc, fun c hc => ?_⟩
  obtain ⟨r, k, a, nd, nn, k1, k2, k3, k4, k5, k6, k7, k8, k9, k10, f, k11⟩ := c4 c hc
  exact ⟨r, k, a, nd, nn, k1, by rw [a37]; exact k2, by rw [wA 102 _ (by omega)]; exact k3, by rw [a37]; exact k4, by rw [wA 105 _ (by omega)]; exact k5, k6, by rw [a37, wA 104 _ (by omega)]; exact k7, by rw [a37]; exact k8, by rw [wA 103 _ (by omega)]; exact k9, by rw [hP 25 (by unfold PRr; omega)]; exact k10, f, by rw [h23, ROs_eq pr, h34]; exact k11⟩
/-- PLs does not speak of numbers here -/
theorem PLs_ri {i : Nat} (pl : PLs b p m w U B W Y) : PLs b p m (wi w i v) U B W Y := PLs_cg pl (fun _ _ => rfl) (fun _ _ => rfl) (fun _ _ => rfl) (fun _ _ => rfl) (fun _ _ => rfl) (fun _ _ => rfl) (fun _ _ => rfl) (fun _ _ => rfl) (fun _ _ => rfl) (fun _ _ => rfl)
theorem takeM_e {tr : Nat} (h7 : F m (pq p 7) = ((Y + 1 : Nat) : Int)) (h8 : F m (pq p 8) = ((tr : Nat) : Int)) (ht : tr ≤ Y) (hY : Y < 30) : hm_Pr_takeMessage N m p = some (tkMs m p tr Y, ()) := by
  unfold hm_Pr_takeMessage hb_Pr_takeMessage_0 hb_Pr_takeMessage_53
  rw [I_F' h7, I_F' h8, decI (by omega) (by omega) (by omega) (by omega), decide_eq_false (by omega), br_f]
  have e1 : I ((tr : Nat) : Int) + 1 = I ((tr + 1 : Nat) : Int) := addN
  have e2 : I ((Y + 1 : Nat) : Int) - I ((tr : Nat) : Int) - 1 = I ((Y - tr : Nat) : Int) := by rw [lit1, I_sub, I_sub]; congr 1; omega
  have ok : cpOk (I ((tr + 1 : Nat) : Int)) (I ((tr : Nat) : Int)) (I ((Y - tr : Nat) : Int)) 30 30 = true := by
    unfold cpOk
    rw [tnI (n := tr + 1) rfl (by omega), tnI (n := tr) rfl (by omega), tnI (n := Y - tr) rfl (by omega)]
    refine decide_eq_true ⟨?_, ?_, ?_, by omega, by omega⟩
    · rw [lit0, I_lt (by omega) (by omega) (by omega) (by omega)]; omega
    · rw [lit0, I_lt (by omega) (by omega) (by omega) (by omega)]; omega
    · rw [lit0, I_lt (by omega) (by omega) (by omega) (by omega)]; omega
  rw [e1, e2, ok, ck_t, tnI (n := tr + 1) rfl (by omega), tnI (n := tr) rfl (by omega), tnI (n := Y - tr) rfl (by omega)]
  have e3 : m.1 (pq p 7) - 1 = I ((Y : Nat) : Int) := by rw [I_F' h7, lit1, I_sub]; congr 1; omega
  show some (upL (upI (upI (upJ m (pq p 6) (va_cpy (m.2.2.2 (pq p 6)) (m.2.2.2 (pq p 6)) (tr + 1) tr (Y - tr))) (pq p 7) (m.1 (pq p 7) - 1)) (pq p 8) 0) (pq p 10) (-1), ()) = _
  rw [e3]
  rfl
end
section
variable {α β : Type} {b : Int → Nat → Nat → Prop} {N p U B W Y j a k n tr : Nat} {m w m2 w2 : MS} {nb : Nat → Nat} {Hs Os : Nat → List Nat} {Q : MS → α → MS → β → Prop} {D : Option (MS × α)} {K : MS → Unit → Option (MS × β)} {K1 : MS → Option (MS × α)} {K2 : MS → Option (MS × β)} {G : MS → Int32 → Option (MS × Unit)}
theorem cho148 (hpp : p < 24) (h3 : F w 133 = ((p : Nat) : Int)) (h95 : A w 95 p = ((j + 1 : Nat) : Int)) (hj : j < 60) (h154 : F w 154 = ((k : Nat) : Int)) (hk : k < 100000) (h43 : A w 43 k = ((n : Nat) : Int)) (h : PP Q D (K (wa w 98 (60 * p + j) ((n : Nat) : Int)) ())) : PP Q D (bnd (fb_M_chosen_148 N G w) K) := by
  unfold fb_M_chosen_148
  refine rb_ck (fun _ => ?_)
  rw [I_F' h154, tnI (n := k) rfl (by omega), I_A' h43]
  refine rb_bnd (pk_mo (goto_r (N := N) (n := ((n : Nat) : Int)) hpp h3 h95 hj) (fun w2 _ e => ?_))
  subst e
  exact h
/-- a choice by its PATTERN: what was tried is dropped -/
theorem chosen_1 (hpp : p < 24) (pl : PLs b p m w U B (W + 1) Y) (ru : RUb m (wi w 152 0) p j nb Hs Os none) (hW : W + 1 ≤ 46000) (hpc : F m 1105 = ((a : Nat) : Int)) (ha : a + 1 < 24000) (h153 : F w 153 = 1) (h154 : F w 154 = ((k : Nat) : Int)) (hk : k < 100000) (h43 : A w 43 k = ((n : Nat) : Int)) (cr : ∃ f, CRs (A m 23) (ROs w) (w.2.2.2 34) f none (a + 1) n (Hs j) (Os j))
    (c : ∀ m3 w3, PLs b p m3 w3 U B W Y → RUs m3 w3 p j nb Hs Os none (a + 1) n → GGm p m m3 → GGw p w w3 → (SCs p m w → SCs p m3 w3) → PP Q (K1 m3) (K2 w3)) : PP Q (bnd (hm_Ma_value N m p (I 15)) (fun u _ => K1 u)) (bnd (fm_M_chosen N w) (fun u _ => K2 u)) := by
  obtain ⟨⟨fa, ct⟩, ⟨r5, r6⟩, r7, ⟨r8, r9, r10⟩, r11, r12, r13⟩ := id ru
  have hj : j < 60 := fa.1.2.2
  have nr := A_r w 43 k
  rw [h43] at nr
  rw [val15, I_F' hpc, show I ((a : Nat) : Int) + 1 = I ((a + 1 : Nat) : Int) from addN, Co_e (k := a + 1) rfl ha, bnd_so, show (1 : Int32) = I 1 from rfl, drop_e (W := W + 1) (k := 1) (x := 1) pl.2.2.1.1 rfl (by omega), bnd_so, Nat.add_sub_cancel]
  have e5 : F (wi m (pq p 26) ((W : Nat) : Int)) 1105 = ((a : Nat) : Int) := by rw [wi_ne (pq_n (by omega))]; exact hpc
  rw [lt_e, I_F' e5, show I ((a : Nat) : Int) + I 1 = I ((a + 1 : Nat) : Int) from addN, wi_e, bnd_so]
  have e153 : F (wi w 152 0) 153 = 1 := by rw [wi_ne (by omega)]; exact h153
  have e154 : F (wi w 152 0) 154 = ((k : Nat) : Int) := by rw [wi_ne (by omega)]; exact h154
  have e92 : A (wi w 152 0) 92 p = ((W + 1 : Nat) : Int) := pl.2.2.1.2.1
  unfold fm_M_chosen fb_M_chosen_0
  rw [show upI w 152 0 = wi w 152 0 from rfl, lt_e, I_F' e153, show decide (I 1 = 0) = false from rfl, br_f, show decide (I 1 = 1) = true from rfl, br_t]
  refine rb_ck (fun _ => rb_ck (fun _ => ?_))
  rw [I_F' r11, tnI (n := p) rfl (by omega), I_A' e92, show I ((W + 1 : Nat) : Int) - 1 = I ((W : Nat) : Int) by rw [lit1, I_sub]; congr 1; omega, wa_e, lt_e]
  have f3 : FGm p m (wi (wi m (pq p 26) ((W : Nat) : Int)) 1105 ((a + 1 : Nat) : Int)) := FGm.tr FGm.drop FGm.pc
  have g3 : FGw p j (wi w 152 0) (wa (wa (wi w 152 0) 92 p ((W : Nat) : Int)) 98 (60 * p + j) ((n : Nat) : Int)) := FGw.tr FGw.w92 FGw.goto
  refine cho148 (j := j) (k := k) (n := n) hpp r11 (by rw [wa_rne (by omega)]; exact fa.1.2.1) hj e154 hk (by rw [wa_rne (by omega)]; exact h43) ?_
  exact c _ _ (PLs_pc (PLs_98 (PLs_drop (k := 1) (PLs_ri pl) (by omega)))) (RUs_mk ⟨fa, ct⟩ r5 r6 r7 r8 r9 r10 r11 r12 r13 f3 g3 (by rw [wi_sm (by omega) (by omega)]) (by rw [wa_sm nr.1 nr.2]) cr) (GGm_fg f3) (GGw.tr (GGw_reg (by omega) (by omega)) (GGw_fg g3 hj)) (fun s => SC_fg (w := wi w 152 0) s f3 g3)
/-- IF -/
theorem chosen_2 (hpp : p < 24) (pl : PLs b p m w U B W Y) (ru : RUb m (wi w 152 0) p j nb Hs Os none) (hpc : F m 1105 = ((a : Nat) : Int)) (h153 : F w 153 = 2) (h154 : F w 154 = ((k : Nat) : Int)) (hk : k < 100000) (h43 : A w 43 k = ((n : Nat) : Int)) (cr : ∃ f, CRs (A m 23) (ROs w) (w.2.2.2 34) f none a n (Hs j) (Os j))
    (c : ∀ w3, PLs b p m w3 U B W Y → RUs m w3 p j nb Hs Os none a n → GGw p w w3 → (SCs p m w → SCs p m w3) → PP Q D (K2 w3)) : PP Q D (bnd (fm_M_chosen N w) (fun u _ => K2 u)) := by
  obtain ⟨⟨fa, ct⟩, ⟨r5, r6⟩, r7, ⟨r8, r9, r10⟩, r11, r12, r13⟩ := id ru
  have hj : j < 60 := fa.1.2.2
  have nr := A_r w 43 k
  rw [h43] at nr
  have e153 : F (wi w 152 0) 153 = 2 := by rw [wi_ne (by omega)]; exact h153
  have e154 : F (wi w 152 0) 154 = ((k : Nat) : Int) := by rw [wi_ne (by omega)]; exact h154
  unfold fm_M_chosen fb_M_chosen_0
  rw [show upI w 152 0 = wi w 152 0 from rfl, lt_e, I_F' e153, show decide (I 2 = 0) = false from rfl, br_f, show decide (I 2 = 1) = false from rfl, br_f, show decide (I 2 = 3) = false from rfl, br_f]
  have g3 : FGw p j (wi w 152 0) (wa (wi w 152 0) 98 (60 * p + j) ((n : Nat) : Int)) := FGw.goto
  refine cho148 (j := j) (k := k) (n := n) hpp r11 fa.1.2.1 hj e154 hk h43 ?_
  exact c _ (PLs_98 (PLs_ri pl)) (RUs_mk ⟨fa, ct⟩ r5 r6 r7 r8 r9 r10 r11 r12 r13 FGm.rf g3 hpc (by rw [wa_sm nr.1 nr.2]) cr) (GGw.tr (GGw_reg (by omega) (by omega)) (GGw_fg g3 hj)) (fun s => SC_fg (w := wi w 152 0) s FGm.rf g3)
/-- a CLAUSE of a FUNCTION: its ARGUMENTS are dropped, its line is kept -/
theorem chosen_0 {n0 t : Nat} (hpp : p < 24) (pl : PLs b p m w U B (W + n0) Y) (ru : RUb m (wi w 152 0) p j nb Hs Os none) (hW : W + n0 ≤ 46000) (hpc : F m 1105 = ((a : Nat) : Int)) (ha : a + 3 < 24000) (h153 : F w 153 = 0) (h154 : F w 154 = ((k : Nat) : Int)) (hk : k < 100000) (h41 : A w 41 k = ((n0 : Nat) : Int)) (c1 : A m 23 (a + 1) = A w 41 k) (h44 : A w 44 k = ((t : Nat) : Int)) (c2 : A m 23 (a + 2) = A w 8 t) (h43 : A w 43 k = ((n : Nat) : Int)) (cr : ∃ f, CRs (A m 23) (ROs w) (w.2.2.2 34) f none (a + 3) n (Hs j) (Os j))
    (c : ∀ m3 w3, PLs b p m3 w3 U B W Y → RUs m3 w3 p j nb Hs Os none (a + 3) n → GGm p m m3 → GGw p w w3 → (SCs p m w → SCs p m3 w3) → PP Q (K1 m3) (K2 w3)) : PP Q (bnd (hm_Ma_flow N m p (I 24)) (fun u _ => K1 u)) (bnd (fm_M_chosen N w) (fun u _ => K2 u)) := by
  obtain ⟨⟨fa, ct⟩, ⟨r5, r6⟩, r7, ⟨r8, r9, r10⟩, r11, r12, r13⟩ := id ru
  have hj : j < 60 := fa.1.2.2
  have nr := A_r w 43 k
  rw [h43] at nr
  rw [h41] at c1
  have r7' : F m 1112 = 0 := by
    rcases r7 with ⟨_, c3, _⟩ | ⟨_, _, _, c, _⟩
    · exact c3
    · cases c
  rw [flo24, I_F' hpc, show I ((a : Nat) : Int) + 1 = I ((a + 1 : Nat) : Int) from addN, Co_e (k := a + 1) rfl (by omega), bnd_so, c1, drop_e (W := W + n0) (k := n0) (x := ((n0 : Nat) : Int)) pl.2.2.1.1 rfl (by omega), bnd_so, Nat.add_sub_cancel]
  generalize hm1 : wi m (pq p 26) ((W : Nat) : Int) = m1
  have e5 : F m1 1105 = ((a : Nat) : Int) := by rw [← hm1, wi_ne (pq_n (by omega))]; exact hpc
  have e21 : F m1 (pq p 21) = ((j + 1 : Nat) : Int) := by rw [← hm1, wi_ne (pq_inj (by omega))]; exact fa.1.1
  have e23 : A m1 23 (a + 2) = A w 8 t := by rw [← hm1]; exact c2
  unfold hm_Fr_setLine hb_Fr_setLine_0
  rw [I_F' e5, show I ((a : Nat) : Int) + 2 = I ((a + 2 : Nat) : Int) from addN, Co_e (k := a + 2) rfl (by omega), bnd_so, e23, show (1 : Int32) = I 1 from rfl, set_s (y := 1) (k := 1) (j := j) e21 hj rfl (by omega), bnd_so, bnd_so]
  have e5' : F (s30 m1 p (5 * j + 1) (I (A w 8 t))) 1105 = ((a : Nat) : Int) := e5
  rw [lt_e, I_F' e5', show I ((a : Nat) : Int) + 3 = I ((a + 3 : Nat) : Int) from addN, wi_e, bnd_so]
  have e153 : F (wi w 152 0) 153 = 0 := by rw [wi_ne (by omega)]; exact h153
  have e154 : F (wi w 152 0) 154 = ((k : Nat) : Int) := by rw [wi_ne (by omega)]; exact h154
  have e92 : A (wi w 152 0) 92 p = ((W + n0 : Nat) : Int) := pl.2.2.1.2.1
  have e41 : A (wi w 152 0) 41 k = ((n0 : Nat) : Int) := h41
  unfold fm_M_chosen fb_M_chosen_0
  rw [show upI w 152 0 = wi w 152 0 from rfl, lt_e, I_F' e153, show decide (I 0 = 0) = true from rfl, br_t]
  refine rb_ck (fun _ => rb_ck (fun _ => rb_ck (fun _ => ?_)))
  rw [I_F' r11, tnI (n := p) rfl (by omega), I_A' e92, I_F' e154, tnI (n := k) rfl (by omega), I_A' e41, show I ((W + n0 : Nat) : Int) - I ((n0 : Nat) : Int) = I ((W : Nat) : Int) by rw [I_sub]; congr 1; omega, wa_e, lt_e]
  generalize hw1 : wa (wi w 152 0) 92 p ((W : Nat) : Int) = w1
  have w1F : ∀ l, F w1 l = F (wi w 152 0) l := fun l => by rw [← hw1]; rfl
  have w1A : ∀ K i, K ≠ 92 → A w1 K i = A w K i := fun K i h => by rw [← hw1, wa_rne h]; rfl
  unfold fm_M_frame0 fb_M_frame0_0
  have x33 : F w1 133 = ((p : Nat) : Int) := (w1F 133).trans r11
  have x95 : A w1 95 p = ((j + 1 : Nat) : Int) := (w1A 95 p (by omega)).trans fa.1.2.1
  have x154 : F w1 154 = ((k : Nat) : Int) := (w1F 154).trans e154
  have ix : (I ((p : Nat) : Int) * 60 + I ((j + 1 : Nat) : Int) - 1).toNatClampNeg = 60 * p + j := by
    rw [show (60 : Int32) = I 60 from rfl, lit1, I_mul, I_add, I_sub]
    exact tnI (n := 60 * p + j) (by omega) (by omega)
  rw [I_F' x33, tnI (n := p) rfl (by omega), I_A' x95]
  refine rb_bnd (pk_ck (fun _ => pk_some ?_))
  refine rb_ck (fun _ => ?_)
  rw [ix, I_F' x154, wa_e, lt_e]
  refine cho148 (j := j) (k := k) (n := n) hpp x33 (by rw [wa_rne (by omega)]; exact x95) hj x154 hk (by rw [wa_rne (by omega), w1A 43 k (by omega)]; exact h43) ?_
  generalize hw3 : wa (wa w1 97 (60 * p + j) ((k : Nat) : Int)) 98 (60 * p + j) ((n : Nat) : Int) = w3
  generalize hm3 : wi (s30 m1 p (5 * j + 1) (I (A w 8 t))) 1105 ((a + 3 : Nat) : Int) = m3
  have a8 := A_r w 8 t
  have w3R : ∀ K, K ≠ 92 → K ≠ 97 → K ≠ 98 → w3.2.2.1 K = w.2.2.1 K := fun K h1 h2 h3 => by rw [← hw3, wa_21 h3, wa_21 h2, ← hw1, wa_21 h1]; rfl
  have pr : ∀ K, PRr K → w3.2.2.1 K = w.2.2.1 K := fun K h => w3R K (by unfold PRr at h; omega) (by unfold PRr at h; omega) (by unfold PRr at h; omega)
  have w3F : ∀ l, l ≠ 152 → w3.1 l = w.1 l := fun l h => by rw [← hw3, ← hw1]; exact wi_1 h
  have w3J : w3.2.2.2 = w.2.2.2 := by rw [← hw3, ← hw1]; rfl
  have mq : ∀ l, l ≠ 26 → m3.1 (pq p l) = m.1 (pq p l) := fun l h => by
    rw [← hm3, wi_1 (fun c => pq_n (by omega) c.symm)]
    show m1.1 (pq p l) = _
    rw [← hm1, wi_1 (pq_inj h)]
  have mg : ∀ l, l < 2000 → l ≠ 1105 → m3.1 l = m.1 l := fun l h0 h => by
    rw [← hm3, wi_1 h]
    show m1.1 l = _
    rw [← hm1, wi_1 (pq_n h0)]
  have m3A : ∀ K, K ≠ pq p 30 → m3.2.2.1 K = m.2.2.1 K := fun K h => by
    rw [← hm3, ← hm1]
    exact if_neg h
  have m3J : m3.2.2.2 = m.2.2.2 := by rw [← hm3, ← hm1]; rfl
  have m30 : ∀ i, A m3 (pq p 30) i = if i = 5 * j + 1 then (I (A w 8 t)).toInt else A m (pq p 30) i := fun i => by
    rw [← hm3]
    show A (s30 m1 p (5 * j + 1) (I (A w 8 t))) (pq p 30) i = _
    rw [s30_a, ← hm1]
    rfl
  have h23 : A m3 23 = A m 23 := by funext i; show (m3.2.2.1 23 i).toInt = _; rw [m3A 23 (pq_n (by omega))]; rfl
  have wR : ∀ K i, 95 ≤ K → K ≤ 101 → ¬ (K = 97 ∧ i = 60 * p + j) → ¬ (K = 98 ∧ i = 60 * p + j) → A w3 K i = A w K i := fun K i h1 h2 h3 h4 => by
    show (w3.2.2.1 K i).toInt = _
    rw [← hw3, wa_at h4, wa_at h3]
    exact w1A K i (by omega)
  have fa3 : FAs m3 w3 p j nb Hs Os := FA_line (w := w) (k := k) (t := t) (l := A w 8 t) fa (congrArg Int32.toInt (mq 21 (by omega))) (congrArg Int32.toInt (mq 24 (by omega))) (fun i h => by rw [m30, if_neg h]) (by rw [m30, if_pos rfl]; exact I_ti a8.1 a8.2) (m3A _ (pq_inj (by omega))) (m3A 23 (pq_n (by omega))) wR (by rw [← hw3, wa_rne (by omega), wa_sm (by omega) (by omega)]) h44 rfl pr (by rw [w3J])
  have ct3 : CTs m3 w3 p j nb Hs Os := CT_same (w := w) ct (mq 28 (by omega)) (m3A _ (pq_inj (by omega))) (m3A 23 (pq_n (by omega))) (fun K h1 h2 => w3R K (by omega) (by omega) (by omega)) pr (by rw [w3J])
  have pl3 : PLs b p m3 w3 U B W Y := by
    have q := PLs_drop (k := n0) (PLs_ri (v := 0) (i := 152) pl) (by omega)
    rw [hm1, hw1] at q
    refine PLs_cg q (fun l _ => ?_) (fun i _ => ?_) (fun i _ => ?_) (fun i _ => ?_) (fun i _ => ?_) (fun K hK => ?_) (fun i _ => ?_) (fun i _ => ?_) (fun i _ => ?_) (fun i _ => ?_)
    · rw [← hm3, wi_1 (fun c => pq_n (by omega) c.symm)]; rfl
    · rw [← hm3]; rfl
    · rw [← hm3]; rfl
    · rw [← hm3]; rfl
    · rw [← hm3]; rfl
    · simp only [List.mem_cons, List.not_mem_nil, or_false] at hK
      rw [← hw3, wa_21 (by omega), wa_21 (by omega)]
    · rw [← hw3]; rfl
    · rw [← hw3]; rfl
    · rw [← hw3]; rfl
    · rw [← hw3]; rfl
  have gm : GGm p m m3 := by
    rw [← hm3, ← hm1]
    exact GGm.tr (GGm.tr (GGm_own (by omega)) GGm_s30) (GGm_reg (by omega))
  have gw : GGw p w w3 := by
    rw [← hw3, ← hw1]
    exact GGw.tr (GGw.tr (GGw.tr (GGw_reg (by omega) (by omega)) (GGw_own (Or.inl ⟨by omega, rfl⟩))) (GGw_own (Or.inr (Or.inl ⟨⟨by omega, by omega⟩, by omega, by omega⟩)))) (GGw_own (Or.inr (Or.inl ⟨⟨by omega, by omega⟩, by omega, by omega⟩)))
  refine c m3 w3 pl3 ⟨⟨fa3, ct3⟩, ⟨?_, ?_⟩, ?_, ⟨(congrArg Int32.toInt (mq 9 (by omega))).trans r5, ?_⟩, Or.inl ⟨rfl, (congrArg Int32.toInt (mg 1112 (by omega) (by omega))).trans r7', ?_⟩, ⟨(congrArg Int32.toInt (mg 1108 (by omega) (by omega))).trans r8, (congrArg Int32.toInt (mg 1109 (by omega) (by omega))).trans r9, ?_⟩, ?_, ?_, ?_⟩ gm gw (fun s => SC_ow s (fun l hl => mq l (by omega)) (m3A _ (pq_inj (by omega))) (fun K h1 h2 => w3R K (by omega) (by omega) (by omega)))
  · rw [← hm3, wi_sm (by omega) (by omega)]
  · rw [← hw3, wa_sm nr.1 nr.2]
  · rw [h23, ROs_eq pr, w3J]; exact cr
  · show (w3.2.2.1 109 p).toInt = _
    rw [w3R 109 (by omega) (by omega) (by omega)]; exact r6
  · rw [← hw3, ← hw1]
    show F (wi w 152 0) 152 = 0
    exact wi_sm (by omega) (by omega)
  · exact (congrArg Int32.toInt (w3F 151 (by omega))).trans ((wi_ne (x := 0) (by omega)).symm.trans r10)
  · exact (congrArg Int32.toInt (w3F 133 (by omega))).trans ((wi_ne (x := 0) (by omega)).symm.trans r11)
  · rw [mg 1106 (by omega) (by omega), w3F 165 (by omega)]; exact r12.trans (wi_1 (by omega))
  · rw [mg 1107 (by omega) (by omega), w3F 164 (by omega)]; exact r13.trans (wi_1 (by omega))
end
