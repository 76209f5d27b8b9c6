set_option maxRecDepth 100000
theorem ck_tt {α : Type} {x : Option α} : ck true x = x := rfl
section
variable {α β : Type} {z : Nat} {o : Option Nat} {V : (Nat → Nat) → α → β → Prop} {c : Nat → Nat} {u : CS} {m : MS} {q : Nat} {N : Nat}
theorem EX_new (h : RP o c m u) (h0 : c (pq q 0) = 0) {w : CS} (e1 : w.1.1 = u.1.1 + 11) (e2 : w.1.2 = u.1.2 + 1630) (hn : 0 < u.1.1) : EX 1 c u (cNw c q u.1.1) w := by
  have hr : ∀ r, MD c r → r ≠ q := fun r hr y => hr.2 (y ▸ h0)
  refine ⟨fun r a => ⟨⟨a.1, by rw [cNw_r (by omega) (hr r a)]; exact a.2⟩, cNw_r (by omega) (hr r a), cNw_r (by omega) (hr r a)⟩, by omega, by omega, fun _ r a => cNw_r (by omega) (hr r a), fun y => (by cases y), fun y => by omega⟩
theorem rf_new (h : RP o c m u) {x : Int32} (hx : m.1 942 = x) (hb : inb x 24 = true) (h0 : rf (m.2.2.1 1948 x.toNatClampNeg) = none) (hz : zle 1 z) {fk : CS → Option (CS × α)} {y : MS → Option (MS × β)} (kk : ∀ c2 m2 w, RP o c2 m2 w → EX 1 c u c2 w → RF z o V c2 w (fk w) (y m2)) :
    RF z o V c u (bo (nO u 7 18 t_Pr) (fun w16 => gw w16 (bo (gI w16 47 12 2) (fun r17 => ck (List.all [some 47, some 48, some u.1.1] (okR w16.1.1)) (bx (gw w16 (fm_Pr_init N w16 u.1.1 r17)) (fun u18 r18 => gw u18 (bo (some 48) (fun j19 => bo (sP u18 j19 x u.1.1) fk)))))))) (lt (newP m x.toNatClampNeg) y) := by
  have hn := sk_n h.1.1
  have hlt := inb_lt hb
  have hx0 : Int32.ofNat x.toNatClampNeg = x := ofNat_cl (fun y => by
    unfold inb at hb
    exact of_decide_eq_true hb (Or.inl y))
  have hc0 : c (pq x.toNatClampNeg 0) = 0 := by
    have := h.2.2.2.1.2 _ hlt
    by_cases e : c (pq x.toNatClampNeg 0) = 0
    · exact e
    · rw [if_neg e] at this
      rw [this, rf_ofNat (by omega)] at h0
      cases h0
  have e0 : nO u 7 18 t_Pr = some (cnew u 18 (.inl (7, fun j => dfV (t_Pr j)))) := by unfold nO; exact if_pos h.2.1
  rw [e0]
  generalize hw : cnew u 18 (.inl (7, fun j => dfV (t_Pr j))) = w1
  have w1e : w1.1 = (u.1.1 + 1, u.1.2 + 18) := by rw [← hw]; rfl
  have h1 : NS u u.1.1 1 18 (fun j => dfV (t_Pr j)) (fun j => dfV (t_Pr j)) w1 := by
    rw [← hw]
    exact ⟨rfl, rfl, wf_cnew h.2.1 okC_df, fun j hj => cnew_ne (by omega), cnew_eq, fun y => by omega, fun k _ _ => by omega⟩
  have hi : ∀ i, i < 57 → w1.2 i = u.2 i := fun i hi => h1.2.2.2.1 i (by omega)
  have eg : gI w1 47 12 2 = some x := by
    have := gI_s h (i := 47) (k := 2) (by decide) rfl (by decide) rfl
    unfold gI oF at this ⊢
    rw [if_pos (by omega)] at this
    rw [if_pos (by rw [w1e]; show 47 < u.1.1 + 1; omega), hi 47 (by omega), this]
    exact congrArg some hx
  show RF z o V c u (gw w1 (bo (gI w1 47 12 2) _)) _
  rw [eg]
  show RF z o V c u (gw w1 (ck (List.all [some 47, some 48, some u.1.1] (okR w1.1.1)) _)) _
  rw [all3 (show okR w1.1.1 (some 47) = true from decide_eq_true (by rw [w1e]; show 47 < u.1.1 + 1; omega)) (show okR w1.1.1 (some 48) = true from decide_eq_true (by rw [w1e]; show 48 < u.1.1 + 1; omega)) (show okR w1.1.1 (some u.1.1) = true from decide_eq_true (by rw [w1e]; show u.1.1 < u.1.1 + 1; omega))]
  obtain ⟨x1, ex, a1, a2, hN⟩ := Pr_init_r (N := N) (x := x) h1
  rw [ck_tt, ex, gw_e a1 a2]
  show RF z o V c u (gw w1 (gw x1 (bo (sP x1 48 x u.1.1) fk))) _
  have hxi : ∀ i, i < 57 → x1.2 i = u.2 i := fun i hi => hN.2.2.2.1 i (by omega)
  obtain ⟨g48, e48, e49⟩ := oP_48 h
  have es : sP x1 48 x u.1.1 = some (cup x1 48 (.inr (.inr (.inr (24, va_up (AP u 48) x.toNatClampNeg (some u.1.1)))))) := by
    have eo : oP x1 48 = some (24, AP u 48) := by
      unfold oP at e48 ⊢
      rw [if_pos (by omega)] at e48
      rw [if_pos (by rw [hN.1]; omega), hxi 48 (by omega), e48, e49]
    have ei : isO x1 u.1.1 7 = true := by
      unfold isO oF
      rw [if_pos (by rw [hN.1]; omega), hN.2.2.2.2.1]
      rfl
    unfold sP
    rw [eo]
    exact if_pos ⟨hb, ei⟩
  rw [es]
  have hR := RP_new h hlt hc0 (x := x1) (w := cup x1 48 (.inr (.inr (.inr (24, va_up (AP u 48) x.toNatClampNeg (some u.1.1)))))) (by rw [hx0]; exact hN) rfl (fun i hi => cup_ne hi) cup_eq
  have hE := EX_new (q := x.toNatClampNeg) h hc0 (w := cup x1 48 (.inr (.inr (.inr (24, va_up (AP u 48) x.toNatClampNeg (some u.1.1)))))) hN.1 hN.2.1 (by omega)
  intro m4 b hb4
  obtain ⟨c2, u2, a, k1, k2, k3, k4⟩ := kk _ _ _ hR hE m4 b hb4
  refine ⟨c2, u2, a, ?_, k2, (hE.mo hz).tr k3, k4⟩
  have t1 := k3.2.1
  have t2 := k3.2.2.1
  rw [cup_1] at t1 t2
  show gw w1 (gw x1 (fk _)) = _
  rw [k1, gw_e t1 t2, gw_e (by omega) (by omega)]
theorem RP_none (h : RP o c m u) : RP none c m u := ⟨h.1, h.2.1, fun q e => (by cases e), h.2.2.2⟩
theorem RP_take (h : RP o c m u) (hq : MD c q) : RP (some q) c m (uF (uF u 55 3 (.inr (.inr (some (c (pq q 0)))))) 55 4 (.inr (.inr (some (c (pq q 20)))))) := by
  obtain ⟨⟨s1, s2, s3, s4, s5, s6, s7⟩, r2, r3, r4⟩ := h
  have hd := r4.2.1.2
  have k0 : okV u.1.1 (.inr (.inr (some (c (pq q 0))))) = true := decide_eq_true (hd q 0 hq isR0).2
  have k20 : okV u.1.1 (.inr (.inr (some (c (pq q 20))))) = true := decide_eq_true (hd q 20 hq isR20).2
  have s1a : skB (uF u 55 3 (.inr (.inr (some (c (pq q 0)))))) = true := sk_uF (x := 2) s1 (by decide) rfl rfl rfl
  have s1b : skB (uF (uF u 55 3 (.inr (.inr (some (c (pq q 0)))))) 55 4 (.inr (.inr (some (c (pq q 20)))))) = true := sk_uF (x := 2) s1a (by decide) rfl rfl rfl
  have hF : ∀ (w : CS) (k : Nat) (v : Option Nat) (i k2 : Nat), skB w = true → (k = 3 ∨ k = 4) → FI (uF w 55 k (.inr (.inr v))) i k2 = FI w i k2 := by
    intro w k v i k2 hw hk
    by_cases e : i = 55 ∧ k2 = k
    · obtain ⟨rfl, rfl⟩ := e
      obtain ⟨f, h1, h2, h3⟩ := sk_o hw (i := 55) (by decide) rfl
      unfold FI uF
      rw [h2]
      simp only [cup, if_true]
      rcases hk with rfl | rfl
      · have := h3 3 (by decide)
        cases hf : f 3 with
        | inl z => rw [hf] at this; cases this
        | inr z => rfl
      · have := h3 4 (by decide)
        cases hf : f 4 with
        | inl z => rw [hf] at this; cases this
        | inr z => rfl
    · exact FI_F (by omega)
  refine RP_low (o := some q) (o2 := o) (u := u) (m := m) ⟨⟨s1, s2, s3, s4, s5, s6, s7⟩, r2, r3, r4⟩ ⟨s1b, fun i2 k2 hi2 hk2 => ?_, ?_, fun i2 h2 => ?_, fun i2 h2 => ?_, ?_, s7⟩ ?_ (fun r hr => ?_) ?_ (fun j hj => ?_) (fun _ _ => rfl) (fun _ _ => rfl) (fun _ _ => rfl) (fun _ _ => rfl)
  · rw [hF _ 4 _ _ _ s1a (by omega), hF _ 3 _ _ _ s1 (by omega)]; exact s2 i2 k2 hi2 hk2
  · rw [FJ_F (by omega), FJ_F (by omega)]; exact s3
  · rw [AI_F, AI_F]; exact s4 i2 h2
  · rw [AJ_F, AJ_F]; exact s5 i2 h2
  · rw [FR_F (by omega), FR_F (by omega)]; exact s6
  · refine wf_uF (wf_uF r2 k0) ?_
    rw [uF_1]; exact k20
  · cases hr
    refine ⟨hq, ?_, FR_self s1a (by decide) rfl⟩
    rw [FR_F (by omega)]
    exact FR_self s1 (by decide) rfl
  · rw [uF_1, uF_1]
  · rw [uF_ne (by omega), uF_ne (by omega)]
theorem rf_take {j : Nat} {K : CS → Option (CS × α)} {y : Option (MS × β)} (h : RP none c m u) (hj : PVn c j q) (kk : ∀ w, RP (some q) c m w → RF z (some q) V c w (K w) y) : RF z none V c u (bo (pF u 55 5 3 (.inr (.inr (some j)))) (fun w32 => bo (some j) (fun j33 => bo (gR w32 j33 7 1) (fun r34 => bo (pF w32 55 5 4 (.inr (.inr r34))) K)))) y := by
  have s1 := h.1.1
  have hR := RP_take h hj.1
  have e1 : pF u 55 5 3 (.inr (.inr (some j))) = some (uF u 55 3 (.inr (.inr (some j)))) := sk_pF s1 (by decide) rfl
  have s1a : skB (uF u 55 3 (.inr (.inr (some j)))) = true := sk_uF (x := 2) s1 (by decide) rfl rfl rfl
  have e2 : gR (uF u 55 3 (.inr (.inr (some j)))) j 7 1 = some (some (c (pq q 20))) := by
    have := gR_P1 h hj
    have hd := h.2.2.2.2.1.2 q 0 hj.1 isR0
    unfold gR oF at this ⊢
    rw [uF_1, uF_ne (by rw [hj.2]; omega)]
    exact this
  have e3 : pF (uF u 55 3 (.inr (.inr (some j)))) 55 5 4 (.inr (.inr (some (c (pq q 20))))) = some (uF (uF u 55 3 (.inr (.inr (some j)))) 55 4 (.inr (.inr (some (c (pq q 20)))))) := sk_pF s1a (by decide) rfl
  rw [← hj.2] at hR
  rw [e1]
  show RF z none V c u (bo (gR (uF u 55 3 (.inr (.inr (some j)))) j 7 1) _) y
  rw [e2]
  show RF z none V c u (bo (pF (uF u 55 3 (.inr (.inr (some j)))) 55 5 4 (.inr (.inr (some (c (pq q 20)))))) K) y
  rw [e3]
  intro m4 b hb
  obtain ⟨c2, u2, a, k1, k2, k3, k4⟩ := kk _ hR m4 b hb
  refine ⟨c2, u2, a, k1, RP_none k2, (EX.rf ?_).tr k3, k4⟩
  rw [uF_1, uF_1]
theorem rf_boQ {a b : Option Nat} {f : Nat → Option (CS × α)} {g : Nat → Option (MS × β)} (h : PVo c a b) (q : ∀ j r, a = some j → b = some r → PVn c j r → RF z o V c u (bo a f) (g r)) : RF z o V c u (bo a f) (bo b g) := by
  rcases h with ⟨rfl, rfl⟩ | ⟨j, r, rfl, rfl, h3⟩
  · exact rf_none
  · exact q j r rfl rfl h3
theorem rf_opt {a b : Option Nat} {x : Option (CS × α)} {g : Nat → Option (MS × β)} (h : PVo c a b) (q : ∀ j r, a = some j → b = some r → PVn c j r → RF z o V c u x (g r)) : RF z o V c u x (bo b g) := by
  rcases h with ⟨rfl, rfl⟩ | ⟨j, r, rfl, rfl, h3⟩
  · exact rf_none
  · exact q j r rfl rfl h3
theorem rf_home {j : Nat} {f : Option Nat → Option (CS × α)} {y : Option (MS × β)} (h : RP o c m u) (hj : PVn c j q) (k : ∀ a, PVo c a (rf (m.1 (pq q 17))) → RF z o V c u (f a) y) : RF z o V c u (bo (gR u j 7 17) f) y := rf_bo (gR_P17 h hj) (k _ (PV_home h hj))
theorem sq_C (h : RP o c m u) {j b : Nat} (hj : CVn c j b) {i : Int32} {v : Int64} (hb : inb i 512 = true) : ∃ w, sJ u j i v = some w ∧ RP o c (upJ m b (vp_updL (m.2.2.2 b) i.toNatClampNeg v)) w ∧ w.1 = u.1 := by
  obtain ⟨q, hq, rfl, rfl⟩ := hj
  exact sq_2 h hq hb
theorem rf_aPh (h : RP o c m u) {i : Int32} {f : Option Nat → Option (CS × α)} {y : Option (MS × β)} (q : ∀ a, inb i 24 = true → PVo c a (rf (m.2.2.1 1948 i.toNatClampNeg)) → RF z o V c u (f a) y) : RF z o V c u (bo (aP u 48 i) f) (ck (inb i 24) y) := by
  obtain ⟨a, e, h2⟩ := aP_48 h (i := i)
  cases hb : inb i 24 with
  | false => intro m2 b2 h; cases h
  | true => rw [e, if_pos hb]; exact q a hb (h2 hb)
theorem rf_br2h {b b2 : Bool} {x1 x2 : Option (CS × α)} {y1 y2 : Option (MS × β)} (e : b = b2) (h1 : b2 = true → RF z o V c u x1 y1) (h2 : RF z o V c u x2 y2) : RF z o V c u (br b x1 x2) (br b2 y1 y2) := by subst e; cases b; exact h2; exact h1 rfl
end
