def rcB (N : Nat) (S : SG_M_behind) (v2 v4 r9 : Int32) (u14 : MS) : Option (MS × Int32) := ck (inb r9 (ln 26)) (lt (upA u14 26 (upd (u14.2.2.1 26) r9.toNatClampNeg (u14.1 32))) (fun w15 => ck (inb r9 (ln 28)) (lt (upA w15 28 (upd (w15.2.2.1 28) r9.toNatClampNeg (-1))) (fun w16 => bnd (S.2.2.2.2.1 w16) (fun u17 r17 => bnd (fm_M_addRoot N u17 v4 r17) (fun u18 _ => bnd (fm_M_unbind N u18 v2) (fun u19 _ => bnd (fm_M_needWord N u19 6) (fun u20 _ => fb_M_receive_237 N S () u20 (v4)))))))))
def rcA (N : Nat) (S : SG_M_behind) (v2 v4 r9 : Int32) (u9 : MS) : Option (MS × Int32) := ck (inb r9 (ln 25)) (lt (upA u9 25 (upd (u9.2.2.1 25) r9.toNatClampNeg v4)) (fun w10 => ck (inb r9 (ln 27)) (lt (upA w10 27 (upd (w10.2.2.1 27) r9.toNatClampNeg v2)) (fun w11 => ck (inb (w11.1 65) (ln 60)) (lt (upA w11 60 (upd (w11.2.2.1 60) (w11.1 65).toNatClampNeg v2)) (fun w12 => ck (inb v4 (ln 31)) (lt (upA w12 31 (upd (w12.2.2.1 31) v4.toNatClampNeg r9)) (fun w13 => bnd (fm_M_needSign N w13 10) (fun u14 _ => rcB N S v2 v4 r9 u14)))))))))
section
variable {Q : MS → Int32 → Prop} {u0 u v w x V X : MS} {N σ TN SN e j k n0 R0 : Nat} {bw : Nat → Nat} {p o n q c f h s wt g D d B l z t p1 n1 q1 c1 f1 h1 a : Int} {r v2 v3 v4 : Int32} {S : SG_M_behind}
theorem rcB_F (hT : TN ≤ 4000) (hD : D ≤ 2990) (hσ : σ ≤ 26) (hbn : XNO S.2.2.2.2.1) (hs : FSM u0 TN σ D v) (hj : R0 < 16000) (ha : 0 ≤ a ∧ a < 16000) : OK (fun x _ => FSM u0 TN σ (D + 2) x) (rcB N S v2 (I R0) (I a) v) := by
  unfold rcB
  refine k_in (k := 26) (n := 16000) rfl (by decide) (by omega) (ok_lt.mpr (k_in (k := 28) (n := 16000) rfl (by decide) (by omega) (ok_lt.mpr ?_)))
  have z1 : ∀ (w : MS) (k i : Nat), upA w k (upd (w.2.2.1 k) i (-1)) = wa w k i (-1) := fun _ _ _ => rfl
  rw [I_F (k := 32), wa_e, z1]
  have s4 : FSM u0 TN σ D (wa (wa v 26 (I a).toNatClampNeg (F v 32)) 28 (I a).toNatClampNeg (-1)) := FSM_wa (FSM_wa hs (by decide)) (by decide)
  rw [hbn _ s4.2.1, bnd_so]
  refine addRoot_F (FEQ_none s4) (by omega) (by omega) (fun x1 hx1 => unbind_F hx1 hT (by omega) hσ (fun x hx => ?_))
  refine k_needWord (s := 6) rfl ⟨by decide, by decide⟩ (FSM_p hx hT) (fun z _ => absurd z hx.2.1) (fun v2 h3 h4 => ?_)
  have s5 := FSM_67 hx h3 h4
  exact ok_mono (join_F hT (by omega) s5 hj) (fun x _ hx => FSM_mo hx (by omega))
theorem rcA_F (hT : TN ≤ 4000) (hD : D ≤ 2990) (hσ : σ ≤ 26) (hbn : XNO S.2.2.2.2.1) (hs : FSM u0 TN σ D v) (hj : R0 < 16000) (ha : 0 ≤ a ∧ a < 16000) : OK (fun x _ => FSM u0 TN σ (D + 2) x) (rcA N S v2 (I R0) (I a) v) := by
  unfold rcA
  refine k_in (k := 25) (n := 16000) rfl (by decide) (by omega) (ok_lt.mpr (k_in (k := 27) (n := 16000) rfl (by decide) (by omega) (ok_lt.mpr ?_)))
  rw [I_of v2, wa_e, wa_e]
  have s1 : FSM u0 TN σ D (wa (wa v 25 (I a).toNatClampNeg R0) 27 (I a).toNatClampNeg v2.toInt) := FSM_wa (FSM_wa hs (by decide)) (by decide)
  have e65 : F (wa (wa v 25 (I a).toNatClampNeg R0) 27 (I a).toNatClampNeg v2.toInt) 65 = σ := s1.2.2.2.1
  refine k_at (k := 60) (n := 27) rfl (by decide) (by omega) (ok_lt.mpr (k_in (k := 31) (n := 16000) rfl (by decide) (by omega) (ok_lt.mpr ?_)))
  rw [wa_e, wa_e]
  have s2 : FSM u0 TN σ D (wa (wa (wa (wa v 25 (I a).toNatClampNeg R0) 27 (I a).toNatClampNeg v2.toInt) 60 ((wa (wa v 25 (I a).toNatClampNeg R0) 27 (I a).toNatClampNeg v2.toInt).1 65).toNatClampNeg v2.toInt) 31 (I R0).toNatClampNeg a) := FSM_wa (FSM_wa s1 (by decide)) (by decide)
  refine k_needSign (s := 10) rfl ⟨by decide, by decide⟩ (FSM_p s2 hT) (fun z _ => absurd z s2.2.1) (fun v3 h3 h4 => ?_)
  exact rcB_F hT hD hσ hbn (FSM_67 s2 h3 h4) hj ha
theorem EQX_w2 {r i : Nat} {y : Int} (e : EQX σ n0 v w) (hr : r ∈ [23, 24, 25, 26, 27, 28, 29, 30, 31]) (hi : i < n0 ∨ F v 32 ≤ i) : EQX σ n0 v (wa w r i y) := by
  obtain ⟨a1, a2, a3, a4, a5, a6, a7, a8, a9, a10⟩ := e
  have m1 : ∀ r, r ∈ [23, 24, 25, 26, 27, 28, 29, 30, 31] → r ∉ [40, 41, 42, 43, 45] ∧ r ∉ [33, 35, 36, 37, 38] ∧ r ∉ [53, 54, 55] ∧ r ≠ 57 ∧ r ≠ 63 ∧ r ≠ 64 := by decide
  obtain ⟨t1, t2, t3, t4, t5, t6⟩ := m1 r hr
  refine ⟨a1, fun r' i' hr' h1 h2 => ?_, fun r' i' hr' h2 => (wa_rne (fun z : r' = r => t1 (z ▸ hr'))).trans (a3 r' i' hr' h2), fun r' i' hr' h2 => (wa_rne (fun z : r' = r => t2 (z ▸ hr'))).trans (a4 r' i' hr' h2), fun r' i' hr' h2 => (wa_rne (fun z : r' = r => t3 (z ▸ hr'))).trans (a5 r' i' hr' h2), fun i' h2 => (wa_rne (fun z => t4 z.symm)).trans (a6 i' h2), ⟨?_, ?_⟩, ?_, a9, a10⟩
  · exact (wa_ne (by omega)).trans (a2 r' i' hr' h1 h2)
  · refine Nat.le_trans a7.1 ?_; unfold hlo; rw [wa_rne (fun z => t5 z.symm)]; exact Nat.le_refl _
  · rw [wa_rne (fun z => t6 z.symm)]; exact a7.2
  · simp only [F_wa]; exact a8
theorem CHL_ag2 : ∀ (l : List Nat) (b : Nat) (x : Int), CHL v b x l → (∀ r, r ∈ l → n0 ≤ r) → (∀ i, n0 ≤ i → i < b → A w 29 i = A v 29 i) → CHL w b x l ∧ ∀ r, r ∈ l → r < b := by
  intro l
  induction l with
  | nil => intro b x hl _ _; exact ⟨hl, fun r hr => by cases hr⟩
  | cons t l ih =>
    intro b x hl hn ha
    obtain ⟨h1, h2, h3⟩ := hl
    obtain ⟨i1, i2⟩ := ih t _ h3 (fun r hr => hn r (List.mem_cons_of_mem _ hr)) (fun i h1 hi => ha i h1 (by omega))
    have ht := hn t (List.mem_cons_self ..)
    refine ⟨⟨h1, h2, by rw [ha t ht h2]; exact i1⟩, fun r hr => ?_⟩
    rcases List.mem_cons.mp hr with z | z
    · omega
    · have := i2 r z; omega
theorem RTL_eqx (hv : RTL V o n R0) (e : EQX σ n.toNat V X) : ∃ l, CHL X (F V 32).toNat (A V 28 R0) l ∧ ∀ r, r ∈ l → RTD X (25 - o).toNat n.toNat r := by
  obtain ⟨l, c1, c2⟩ := hv
  obtain ⟨d1, d2⟩ := CHL_ag2 (w := X) (n0 := n.toNat) l _ _ c1 (fun r hr => RTD_a _ _ (c2 r hr)) (fun i h1 hi => e.2.1 29 i (by decide) h1 (by omega))
  have m2 : ∀ t, t ∈ [28, 29] → t ∈ [23, 24, 25, 26, 27, 28, 29, 30, 31] := by decide
  refine ⟨l, d1, fun r hr => ?_⟩
  have h1 := RTD_a _ _ (c2 r hr)
  have h2 := d2 r hr
  exact RTD_fr _ _ (c2 r hr) (e.2.1 28 r (by decide) h1 (by omega)) (fun t i ht h3 h4 => e.2.1 t i (m2 t ht) h3 (by omega))
end
