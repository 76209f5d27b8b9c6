/-! what is PREDEFINED: which one, there and here -/
set_option maxRecDepth 100000
section
variable {Sf : MS → Int32 → Prop} {α β : Type} {N p k j a n d d' M2 : Nat} {m w : MS} {nb : Nat → Nat} {Hs Os : Nat → List Nat} {y : Option (Nat × Nat × Nat)} {G : MS → Nat → Int32 → Option (MS × Int32)} {Q : MS → Int32 → MS → Int32 → Prop} {D : Option (MS × α)} {Q2 : MS → α → MS → β → Prop} {K : MS → Unit → Option (MS × β)}
theorem go_pd (h9 : F m (pq p 9) = 0) (h8 : F m 1108 = 0) (hk : k < 1000000000) (ha : F m 1105 = ((a : Nat) : Int)) (ha2 : a + 1 < 24000) (hv : A m 23 a = 39) : q67 Sf N G m p (I ((k : Nat) : Int)) = bnd (hm_Ma_predefined N m p (I (A m 23 (a + 1)))) (fun u _ => q195 Sf N G u p (I ((k : Nat) : Int))) := by
  rw [go_67 h9 h8 hk ha (by omega) hv, show decide (I 39 = 39) = true from rfl, br_t, show I ((a : Nat) : Int) + 1 = I ((a + 1 : Nat) : Int) from addN, Co_e (k := a + 1) rfl ha2, bnd_so]
theorem go_td (h9 : F m (pq p 9) = 0) (h8 : F m 1108 = 0) (hk : k < 1000000000) (ha : F m 1105 = ((a : Nat) : Int)) (ha2 : a + 1 < 24000) (hv : A m 23 a = 40) : q67 Sf N G m p (I ((k : Nat) : Int)) = bnd (hm_Ma_toward N m p (I (A m 23 (a + 1)))) (fun u _ => q195 Sf N G u p (I ((k : Nat) : Int))) := by
  rw [go_67 h9 h8 hk ha (by omega) hv, show decide (I 40 = 39) = false from rfl, br_f, show decide (I 40 = 40) = true from rfl, br_t, show I ((a : Nat) : Int) + 1 = I ((a + 1 : Nat) : Int) from addN, Co_e (k := a + 1) rfl ha2, bnd_so]
theorem pd_r (hpp : p < 24) (hn : n + 2 < 100000) (h27 : A w 27 n = ((2000 + d : Nat) : Int)) (hd : d < 30) (x33 : F w 133 = ((p : Nat) : Int)) (h95 : A w 95 p = ((j + 1 : Nat) : Int)) (hj : j < 60) (h : PP Q2 D (bnd (fm_M_predefinedRun N (wa w 98 (60 * p + j) ((n + 1 : Nat) : Int)) (I ((d : Nat) : Int))) K)) : PP Q2 D (bnd (fm_M_one N w (I ((n : Nat) : Int)) (I 12)) K) := by
  rw [show fm_M_one N w (I ((n : Nat) : Int)) (I 12) = bnd (fm_M_callRun N w (I ((n : Nat) : Int)) (I 12)) (fun u6 _ => some (u6, ())) from rfl]
  refine r_bb ?_
  unfold fm_M_callRun fb_M_callRun_0
  refine rb_ck (fun _ => ?_)
  rw [show decide (I 12 = 12) = true from rfl, br_t]
  refine rb_ck (fun _ => ?_)
  rw [tnI (n := n) rfl (by omega), I_A' h27, show (2000 : Int32) = I 2000 from rfl, decL (by omega) (by omega) (by omega) (by omega), decide_eq_false (by omega), br_f, show I ((n : Nat) : Int) + 1 = I ((n + 1 : Nat) : Int) from addN]
  refine rb_bnd (pk_mo (goto_r (N := N) hpp x33 h95 hj) (fun w2 _ e => ?_))
  subst e
  refine rb_ck (fun _ => ?_)
  have e27 : A (wa w 98 (60 * p + j) ((n + 1 : Nat) : Int)) 27 n = ((2000 + d : Nat) : Int) := by rw [wa_rne (by omega)]; exact h27
  rw [I_A' e27, I_sub, show ((2000 + d : Nat) : Int) - 2000 = ((d : Nat) : Int) by omega]
  refine r_bb ?_
  simp only [bnd_so]
  exact h
/-- one step -/
theorem pd_go {K2 : MS → Option (MS × Int32)} (hpp : p < 24) (hk : k < 1000000000) (ru : RUs m w p j nb Hs Os y a n) (h27 : 2000 ≤ A w 27 n) (pd : PDs (A w 27 n - 2000) (A m 23 a) (A m 23 (a + 1)))
    (c39 : ∀ d : Nat, d < 30 → A w 27 n = ((2000 + d : Nat) : Int) → A m 23 a = 39 → A m 23 (a + 1) = (if d ≤ 7 then ((d : Nat) : Int) else ((d : Nat) : Int) - 1) → d ≠ 2 → d ≠ 3 → d ≠ 4 → d ≠ 8 → d ≠ 16 → PP Q (bnd (hm_Ma_predefined N m p (I (if d ≤ 7 then ((d : Nat) : Int) else ((d : Nat) : Int) - 1))) (fun u _ => q195 Sf N G u p (I ((k : Nat) : Int)))) (bnd (fm_M_predefinedRun N (wa w 98 (60 * p + j) ((n + 1 : Nat) : Int)) (I ((d : Nat) : Int))) (fun u3 _ => K2 u3)))
    (c40 : ∀ d d' : Nat, (d = 2 ∧ d' = 2) ∨ (d = 3 ∧ d' = 3) ∨ (d = 4 ∧ d' = 4) ∨ (d = 8 ∧ d' = 29) ∨ (d = 16 ∧ d' = 15) → A w 27 n = ((2000 + d : Nat) : Int) → PP Q (bnd (hm_Ma_toward N m p (I ((d' : Nat) : Int))) (fun u _ => q195 Sf N G u p (I ((k : Nat) : Int)))) (bnd (fm_M_predefinedRun N (wa w 98 (60 * p + j) ((n + 1 : Nat) : Int)) (I ((d : Nat) : Int))) (fun u3 _ => K2 u3))) : PP Q (q67 Sf N G m p (I ((k : Nat) : Int))) (bnd (fm_M_one N w (I ((n : Nat) : Int)) (I 12)) (fun u3 _ => K2 u3)) := by
  obtain ⟨⟨fa, -⟩, ⟨r2, r3⟩, ⟨f0, cr0⟩, ⟨r5, r6⟩, -, ⟨r8, -, r10⟩, r11, -, -⟩ := id ru
  have cb := CR_b cr0
  have cn := CR_n cr0
  obtain ⟨⟨f1, f2, f3⟩, -⟩ := fa
  obtain ⟨⟨p1, p2⟩, p3, p4⟩ := pd
  obtain ⟨d, hd⟩ : ∃ d : Nat, A w 27 n = ((2000 + d : Nat) : Int) := ⟨(A w 27 n - 2000).toNat, by omega⟩
  have hd2 : d < 30 := by omega
  rw [hd, show ((2000 + d : Nat) : Int) - 2000 = ((d : Nat) : Int) by omega] at p3
  refine pd_r (d := d) hpp (by omega) hd hd2 r11 f2 f3 ?_
  by_cases c8 : d = 2 ∨ d = 3 ∨ d = 4 ∨ d = 8 ∨ d = 16
  · obtain ⟨d', hdd, e1⟩ : ∃ d' : Nat, ((d = 2 ∧ d' = 2) ∨ (d = 3 ∧ d' = 3) ∨ (d = 4 ∧ d' = 4) ∨ (d = 8 ∧ d' = 29) ∨ (d = 16 ∧ d' = 15)) ∧ A m 23 (a + 1) = ((d' : Nat) : Int) := by
      rcases c8 with rfl | rfl | rfl | rfl | rfl
      · exact ⟨2, by omega, p3⟩
      · exact ⟨3, by omega, p3⟩
      · exact ⟨4, by omega, p3⟩
      · exact ⟨29, by omega, p3⟩
      · exact ⟨15, by omega, p3⟩
    have e0 : A m 23 a = 40 := by rw [p4, if_pos (by omega)]
    rw [go_td r5 r8 hk r2 (by omega) e0, e1]
    exact c40 d d' hdd hd
  · have e1 : A m 23 (a + 1) = (if d ≤ 7 then ((d : Nat) : Int) else ((d : Nat) : Int) - 1) := by
      rw [p3]
      by_cases c : d ≤ 7
      · rw [if_pos (by omega), if_pos c]
      · rw [if_neg (by omega), if_neg (by omega), if_neg c]
    have e0 : A m 23 a = 39 := by
      rw [p4, if_neg ?_]
      rw [e1]
      by_cases c : d ≤ 7
      · rw [if_pos c]; omega
      · rw [if_neg c]; omega
    rw [go_pd r5 r8 hk r2 (by omega) e0, e1]
    exact c39 d hd2 hd e0 e1 (by omega) (by omega) (by omega) (by omega) (by omega)
end
