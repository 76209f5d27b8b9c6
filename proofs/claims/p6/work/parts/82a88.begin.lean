def KEP (w : MS) : Prop := F w 140 = -1 ∧ (0 ≤ A w 89 24 ∧ A w 89 24 ≤ 500) ∧ (∀ i, 0 ≤ A w 127 i ∧ A w 127 i ≤ 100) ∧ (∀ i, -1 ≤ A w 97 i ∧ A w 97 i < 1400) ∧ ∀ i, 0 ≤ A w 132 i ∧ A w 132 i ≤ 100
section
variable {Fv : Int64 → Int64 → Prop} {P P2 : Int64 → Prop} {u v w w2 x y : MS} {PR PR2 N p n n2 opM bnM bxM bx2 ND fr k tp mu CN PN SN UN FN rq q m h mm AN z j : Nat} {ow kd ow2 kd2 ro rn rh cb pc ct pM pE : Nat → Nat} {T : TY} {C : CY}
theorem REST_kep (r : REST Fv AN T ND UN FN PR w) : KEP w := by
  obtain ⟨d, hw, -, -⟩ := r
  obtain ⟨n4, ow4, kd4, d3a, d3b, d3c⟩ := d.2.2.1
  exact ⟨d.2.2.2.1, by omega, hw.2.2.2.1, hw.2.2.2.2.1, hw.2.2.2.2.2.1⟩
theorem KEP_fr {is ls as js : List Nat} (k : KEP w) (f : FR is ls as js w v) (hi : 140 ∉ is) (ha : ∀ k, k ∈ [89, 97, 127, 132] → k ∉ as) : KEP v :=
  ⟨by rw [FR.F f hi]; exact k.1, by rw [FR.A f (ha _ (by decide))]; exact k.2.1, fun i => by rw [FR.A f (ha _ (by decide))]; exact k.2.2.1 i, fun i => by rw [FR.A f (ha _ (by decide))]; exact k.2.2.2.1 i, fun i => by rw [FR.A f (ha _ (by decide))]; exact k.2.2.2.2 i⟩
theorem HP_garb {h : Nat → Int64} : HP h n (fun i => i + 1) (fun _ => 0) Fv P := fun t ht g => by
  rcases g with ⟨a, -⟩ | ⟨-, -, -, a, -⟩
  · exact absurd ht a
  · exfalso; have : vn t + 1 = vn t := a; omega
theorem DW_zero (k : KEP w) (h1 : F w 118 = 0) (h2 : F w 149 = 0) (h3 : F w 150 = 0) : DW Fv P 0 w := by
  obtain ⟨k1, k2, -⟩ := k
  exact ⟨⟨h1, by omega⟩, fun p hp => absurd hp (Nat.not_lt_zero p), ⟨(A w 89 24).toNat, fun i => i + 1, fun _ => 0, by omega, by omega, HP_garb⟩, k1, ⟨0, 0, h2, h3, Nat.le_refl _, Nat.zero_le _, fun i h1 h2 => by omega⟩, fun p hp => absurd hp (Nat.not_lt_zero p)⟩
theorem WLD_zero (k : KEP w) (h1 : F w 125 = 0) (h2 : F w 128 = 0) : WLD w T ND UN FN 0 p := by
  obtain ⟨-, -, k3, k4, k5⟩ := k
  exact ⟨⟨fun p hp => absurd hp (Nat.not_lt_zero p), fun p q hp => absurd hp (Nat.not_lt_zero p)⟩, ⟨by omega, by omega, fun i hi => by omega⟩, by omega, k3, k4, k5, fun z hz => absurd hz (Nat.not_lt_zero z)⟩
def BGR (u w : MS) : Prop := FR [3, 87, 118, 119, 120, 121, 125, 128, 149, 150] [] [89, 90, 92, 94, 95, 96, 97, 98, 99, 100, 101, 106, 108, 109, 110, 112, 113, 114, 115, 117, 132, 170] [111] u w
set_option maxRecDepth 100000 in
theorem begin_ok {a : Int32} (k : KEP w) (h : F w 86 ≠ 0 → PER Fv AN T C pM pE ND CN PN SN UN FN w) (hN : 60000 ≤ N) : OK (fun v _ => FR [3] [] [] [] w v ∨ (F w 86 ≠ 0 ∧ F v 87 = 1 ∧ REST Fv AN T ND UN FN 1 v ∧ BGR w v)) (fm_M_begin N w a) := by
  unfold fm_M_begin fb_M_begin_0 fb_M_begin_24
  have bad : ∀ (x t : Int32), t ≠ 0 → OK (fun v _ => FR [3] [] [] [] w v ∨ (F w 86 ≠ 0 ∧ F v 87 = 1 ∧ REST Fv AN T ND UN FN 1 v ∧ BGR w v)) (fb_M_begin_42 N () w x t) := fun x t ht => by
    unfold fb_M_begin_42
    refine ok_lt.mpr (ok_br.mpr ⟨fun z => absurd (of_decide_eq_true z) ht, fun _ => ok_some.mpr (Or.inl ?_)⟩)
    rw [I_of t, wi_e]
    exact FR.wi FR.rf (by decide)
  have b1 := bad a 1 (by decide)
  have b2 := bad a 2 (by decide)
  have b3 := bad a 3 (by decide)
  refine ok_br.mpr ⟨fun _ => b1, fun z86 => ok_br.mpr ⟨fun _ => b2, fun z0 => ok_br.mpr ⟨fun z1 => ?_, fun _ => b2⟩⟩⟩
  have n86 : F w 86 ≠ 0 := fun e => of_decide_eq_false z86 (by rw [I_F' e]; rfl)
  have r := h n86
  have hT := PRG_26 r.1
  have fn := r.1.1.2.2.2.2.1
  have f52 : F w 52 = ((FN : Nat) : Int) := r.1.1.2.2.2.2.2.1
  have ra := ti_rng a
  have ea : a = I a.toInt := I_of a
  rw [ea, lit0q, decL ra.1 ra.2 (by omega) (by omega)] at z0
  rw [ea, I_F' f52, decL ra.1 ra.2 (by omega) (by omega)] at z1
  have c0 := of_decide_eq_false z0
  have c1 := of_decide_eq_true z1
  obtain ⟨f, hf, hf2⟩ : ∃ f : Nat, a = I f ∧ (f : Int) = a.toInt := ⟨a.toInt.toNat, by rw [show ((a.toInt.toNat : Nat) : Int) = a.toInt from by omega]; exact ea, by omega⟩
  have fF : f < FN := by omega
  clear c0 c1 z0 z1 ea ra hf2
  subst hf
  obtain ⟨aa, rr, y1, y2, -⟩ := r.1.2.2.2.2.1 f fF
  refine ok_ck.mpr ⟨inb_at (k := 48) (n := 1000) rfl (by omega) (by omega) (by decide), ?_⟩
  rw [I_tn (x := (f : Int)) (by omega) (by omega), Int.toNat_natCast, I_A' y1, lit0q, decI (by omega) (by omega) (by omega) (by omega)]
  refine ok_br.mpr ⟨fun za => ?_, fun _ => b3⟩
  have aa0 : aa = 0 := by have := of_decide_eq_true za; omega
  unfold fb_M_begin_42
  refine ok_lt.mpr ?_
  rw [show upI w 3 (I 0) = wi w 3 0 from rfl, br_t_of (decide_eq_true (show (wi w 3 0).1 3 = 0 from rfl))]
  refine ok_lt.mpr (ok_lt.mpr (ok_lt.mpr (ok_lt.mpr (ok_lt.mpr (ok_lt.mpr (ok_lt.mpr (ok_lt.mpr (ok_lt.mpr ?_))))))))
  have st : upI (upI (upI (upI (upI (upI (upI (upI (upI (wi w 3 0) 87 1) 118 0) 119 0) 120 0) 121 0) 125 0) 128 0) 149 0) 150 0 = wi (wi (wi (wi (wi (wi (wi (wi (wi (wi w 3 0) 87 1) 118 0) 119 0) 120 0) 121 0) 125 0) 128 0) 149 0) 150 0 := rfl
  rw [st]
  have f1 : FR [3, 87, 118, 119, 120, 121, 125, 128, 149, 150] [] [] [] w (wi (wi (wi (wi (wi (wi (wi (wi (wi (wi w 3 0) 87 1) 118 0) 119 0) 120 0) 121 0) 125 0) 128 0) 149 0) 150 0) := FR.wi (FR.wi (FR.wi (FR.wi (FR.wi (FR.wi (FR.wi (FR.wi (FR.wi (FR.wi FR.rf (by decide)) (by decide)) (by decide)) (by decide)) (by decide)) (by decide)) (by decide)) (by decide)) (by decide)) (by decide)
  have e87 : F (wi (wi (wi (wi (wi (wi (wi (wi (wi (wi w 3 0) 87 1) 118 0) 119 0) 120 0) 121 0) 125 0) 128 0) 149 0) 150 0) 87 = 1 := by rw [F_ne (by decide), F_ne (by decide), F_ne (by decide), F_ne (by decide), F_ne (by decide), F_ne (by decide), F_ne (by decide), F_ne (by decide), F_wi (by omega) (by omega), if_pos rfl]
  have e118 : F (wi (wi (wi (wi (wi (wi (wi (wi (wi (wi w 3 0) 87 1) 118 0) 119 0) 120 0) 121 0) 125 0) 128 0) 149 0) 150 0) 118 = ((0 : Nat) : Int) := by rw [F_ne (by decide), F_ne (by decide), F_ne (by decide), F_ne (by decide), F_ne (by decide), F_ne (by decide), F_ne (by decide), F_wi (by omega) (by omega), if_pos rfl]; rfl
  have e125 : F (wi (wi (wi (wi (wi (wi (wi (wi (wi (wi w 3 0) 87 1) 118 0) 119 0) 120 0) 121 0) 125 0) 128 0) 149 0) 150 0) 125 = 0 := by rw [F_ne (by decide), F_ne (by decide), F_ne (by decide), F_wi (by omega) (by omega), if_pos rfl]
  have e128 : F (wi (wi (wi (wi (wi (wi (wi (wi (wi (wi w 3 0) 87 1) 118 0) 119 0) 120 0) 121 0) 125 0) 128 0) 149 0) 150 0) 128 = 0 := by rw [F_ne (by decide), F_ne (by decide), F_wi (by omega) (by omega), if_pos rfl]
  have e149 : F (wi (wi (wi (wi (wi (wi (wi (wi (wi (wi w 3 0) 87 1) 118 0) 119 0) 120 0) 121 0) 125 0) 128 0) 149 0) 150 0) 149 = 0 := by rw [F_ne (by decide), F_wi (by omega) (by omega), if_pos rfl]
  have e150 : F (wi (wi (wi (wi (wi (wi (wi (wi (wi (wi w 3 0) 87 1) 118 0) 119 0) 120 0) 121 0) 125 0) 128 0) 149 0) 150 0) 150 = 0 := by rw [F_wi (by omega) (by omega), if_pos rfl]
  clear st
  generalize wi (wi (wi (wi (wi (wi (wi (wi (wi (wi w 3 0) 87 1) 118 0) 119 0) 120 0) 121 0) 125 0) 128 0) 149 0) 150 0 = w1 at *
  have k1 := KEP_fr k f1 (by decide) (by decide)
  rw [newProcess_e e118 (by omega), bnd_so]
  have d1 : DW Fv (PQ AN 1) (0 + 1) (npS w1 0) := DW_grow (DW_zero (Fv := Fv) (P := PQ AN 0) k1 e118 e149 e150) (PQ_mo (by omega)) (by omega)
  have sp := SPR_np (PR := 0) (u := w1)
  have n48 : ∀ i, A (npS w1 0) 48 i = A w1 48 i := fun i => FR.A np_fr (by decide)
  obtain ⟨s1, hs1⟩ : ∃ s1, s1 = npS w1 0 := ⟨_, rfl⟩
  have r89 : A s1 92 0 = 0 ∧ A s1 106 0 = 0 ∧ A s1 94 0 = 0 ∧ A s1 95 0 = 1 ∧ A s1 109 0 = 5 ∧ A s1 99 0 = 0 ∧ A s1 100 0 = 0 ∧ A s1 101 0 = 0 := by
    rw [hs1]
    refine ⟨?_, ?_, ?_, ?_, ?_, ?_, ?_, ?_⟩
    · rw [np_row (by decide), if_pos rfl]
    · rw [np_row (by decide), if_pos rfl]
    · rw [np_row (by decide), if_pos rfl]
    · rw [np_95, if_pos rfl]
    · rw [np_109, if_pos rfl]
    · rw [np_fr0 (by decide), if_pos rfl]
    · rw [np_fr0 (by decide), if_pos rfl]
    · rw [np_fr0 (by decide), if_pos rfl]
  have fnp : FR [118] [] [89, 90, 92, 94, 95, 96, 97, 98, 99, 100, 101, 106, 108, 109, 110, 112, 113, 114, 115, 117, 132] [111] w1 s1 := by rw [hs1]; exact np_fr
  rw [← hs1] at d1 sp n48 ⊢
  clear hs1
  rw [show (0 : Int32).toNatClampNeg = 0 from rfl, show inb (0 : Int32) (ln 96) = true from by decide, ck_t, lt_e, wa_e, show inb (0 : Int32) (ln 170) = true from by decide, ck_t, lt_e, litm1q, wa_e]
  have f2 : FR [] [] [96, 170] [] s1 (wa (wa s1 96 0 (f : Int)) 170 0 (-1)) := FR.wa (FR.wa FR.rf (by decide)) (by decide)
  have o2 : OTF 0 s1 (wa (wa s1 96 0 (f : Int)) 170 0 (-1)) := OTF.tr (OTF_96 (by omega) (by omega) (by omega)) (OTF_170 (by omega) (by omega))
  have a96 : A (wa (wa s1 96 0 (f : Int)) 170 0 (-1)) 96 0 = ((f : Nat) : Int) := by rw [A_ne (by decide), A_eq (by omega) (by omega), if_pos rfl]
  generalize wa (wa s1 96 0 (f : Int)) 170 0 (-1) = w2 at *
  have d2 : DW Fv (PQ AN 1) 1 w2 := DW_fr d1 f2 (by decide) (by decide) (by decide) (by decide) (by decide) (by decide) (by decide) (by decide) (by decide) (by decide) (by decide) (by decide) (by decide) (by decide) (by decide) (by decide) (by decide)
  have s2 : SPR 0 w1 w2 := SPR.tr sp f2 o2 (by decide) (by decide) (by decide) (by decide) (by decide) (by decide) (fun y _ => FR.A f2 (by decide))
  have fw12 : FR [118] [] [89, 90, 92, 94, 95, 96, 97, 98, 99, 100, 101, 106, 108, 109, 110, 112, 113, 114, 115, 117, 132, 170] [111] w1 w2 := FR.tr (FR.mo fnp (by decide) (by decide) (by decide) (by decide)) (FR.mo f2 (by decide) (by decide) (by decide) (by decide))
  have new : PSX w2 T ND UN FN 0 := by
    obtain ⟨q1, q2, q3, q4, q5, q6, q7, q8⟩ := r89
    refine Or.inr (Or.inr ⟨by rw [FR.A f2 (by decide)]; exact q5, by rw [FR.A f2 (by decide)]; exact q4, by rw [FR.A f2 (by decide)]; exact q1, by rw [FR.A f2 (by decide)]; exact q2, by rw [FR.A f2 (by decide)]; exact q6, by rw [FR.A f2 (by decide)]; exact q7, 0, by omega, by rw [FR.A f2 (by decide), q3]; rfl, by rw [FR.A f2 (by decide)]; exact q8, Or.inr ⟨rfl, f, fF, a96, by rw [FR.A f2 (by decide), n48, FR.A f1 (by decide), y1, aa0]; rfl⟩⟩)
  have w0 : WLD w1 T ND UN FN 0 24 := WLD_zero k1 e125 e128
  have ww : WLD w2 T ND UN FN (0 + 1) 24 := WLD_grow w0 hT (by omega) s2.2.1 (fun k hk i => FR.A s2.1 (by revert hk; unfold KP; simp; omega)) s2.2.2.1 (fun i => FR.A s2.1 (by decide)) s2.2.2.2.1 (FR.F s2.1 (by decide)) (fun i => FR.A s2.1 (by decide)) (fun i => FR.A s2.1 (by decide)) (FR.F s2.1 (by decide)) (fun i => FR.A s2.1 (by decide)) s2.2.2.2.2 new
  exact ok_some.mpr (Or.inr ⟨n86, by rw [FR.F fw12 (by decide)]; exact e87, ⟨d2, ww, by rw [FR.F fw12 (by decide)]; exact e149, by rw [FR.F fw12 (by decide)]; exact e150⟩, FR.tr (FR.mo f1 (by decide) (by decide) (by decide) (by decide)) (FR.mo fw12 (by decide) (by decide) (by decide) (by decide))⟩)
theorem clock_ok {a : Int32} : OK (fun v _ => FR [3, 120] [] [] [] w v) (fm_M_clock N w a) := by
  have any : ∀ t : Int32, OK (fun v _ => FR [3, 120] [] [] [] w v) (fb_M_clock_50 N () w a t) := fun t => by
    unfold fb_M_clock_50
    refine ok_lt.mpr ?_
    rw [I_of t, wi_e]
    refine ok_br.mpr ⟨fun _ => ok_lt.mpr (ok_some.mpr ?_), fun _ => ok_some.mpr (FR.wi FR.rf (by decide))⟩
    rw [I_of ((wi w 3 t.toInt).1 120 + a), wi_e]
    exact FR.wi (FR.wi FR.rf (by decide)) (by decide)
  unfold fm_M_clock fb_M_clock_0 fb_M_clock_34 fb_M_clock_38
  exact ok_br.mpr ⟨fun _ => any 1, fun _ => ok_br.mpr ⟨fun _ => any 1, fun _ => ok_br.mpr ⟨fun _ => ok_br.mpr ⟨fun _ => any 2, fun _ => any 0⟩, fun _ => ok_br.mpr ⟨fun _ => ok_br.mpr ⟨fun _ => any 2, fun _ => any 0⟩, fun _ => any 1⟩⟩⟩⟩
end
