section
variable {u w x v : MS} {N tn e n : Nat} {p p2 s y : Int} {bw : Nat → Nat} {c r : Int32}
theorem RDI_tok2 (h : RDI u w tn p bw) (f : FR [9, 10, 11, 14, 17, 20] [] [6, 7, 8, 12, 13, 15, 16, 18, 19] [] w x) (x9 : F x 9 = ((tn + 1 : Nat) : Int)) (x10 : F x 10 = p2) (x6 : A x 6 tn = s) (x7 : A x 7 tn = y) (xo : ∀ r j, r ∈ [6, 7] → j ≠ tn → A x r j = A w r j) (hm : F w 14 ≤ F x 14 ∧ F w 17 ≤ F x 17 ∧ F w 20 ≤ F x 20) (he : bw tn + 1 ≤ e ∧ (e : Int) ≤ p2 ∧ (e : Int) ≤ F w 5 ∧ p2 ≤ F w 5 + 1) (hs : 1 ≤ s ∧ s ≤ 7 ∧ (s = 1 → 0 ≤ y ∧ y < F x 14) ∧ (s = 2 → 0 ≤ y ∧ y < F x 17) ∧ (s = 3 → 0 ≤ y ∧ y ≤ 14) ∧ (s = 5 → 0 ≤ y ∧ y < F x 20)) (hb : (s = 3 → y = 6 ∨ y = 7 → bw tn + 3 ≤ e) ∧ (s = 6 → y = 10 → bw tn + 2 ≤ e) ∧ (s = 5 → bw tn + 2 ≤ e) ∧ (s = 3 → y = 6 → bw tn + 4 ≤ e + nu w tn)) (hn : s ≤ 4 → ¬ inB (byI w e)) (tb : TBI x p2) : RDI u x (tn + 1) p2 (fun i => if i ≤ tn then bw i else e) := by
  obtain ⟨a1, ⟨a2, a3⟩, ⟨a4, a5⟩, a6, a7, a8⟩ := h
  have f5 : F x 5 = F w 5 := f.F (by decide)
  have xn : ∀ i, i ≤ tn → nu x i = nu w i := fun i hi => by
    unfold nu
    split
    · rfl
    · rw [xo 6 (i - 1) (by decide) (by omega)]
  have by5 : ∀ k, byI x k = byI w k := byI_fr (fun i => by rw [f.2.2.1 4 (by decide)]) f5
  refine ⟨FR.tr a1 f, ⟨x9, x10⟩, ⟨by simp only [Nat.zero_le, if_true]; exact a4, fun i hi => ?_⟩, ?_, fun _ q => ?_, tb⟩
  · by_cases z : i < tn
    · simp only [show i ≤ tn by omega, show i + 1 ≤ tn by omega, if_true]
      rw [xo 6 i (by decide) (by omega), xo 7 i (by decide) (by omega), xn i (by omega)]
      obtain ⟨⟨b1, b2, b3, b4, b5, b6⟩, b7⟩ := a5 i z
      exact ⟨⟨b1, b2, fun q => by have := b3 q; omega, fun q => by have := b4 q; omega, b5, fun q => by have := b6 q; omega⟩, b7⟩
    · obtain rfl : i = tn := by omega
      simp only [Nat.le_refl, if_true, show ¬ (i + 1 ≤ i) by omega, if_false]
      rw [x6, x7, xn i (Nat.le_refl _)]
      exact ⟨hs, he.1, hb⟩
  · simp only [show ¬ (tn + 1 ≤ tn) by omega, if_false]
    rw [f5]; omega
  · simp only [show ¬ (tn + 1 ≤ tn) by omega, if_false]
    rw [by5]
    rw [Nat.add_sub_cancel, x6] at q
    exact hn q.2
theorem tkn_f (h9 : F w 9 = ((tn : Nat) : Int)) (ht : tn ≤ 5000) (rs : RG s) (ry : RG y) : FR [9] [] [6, 7, 8] [] w (tkn w s y) ∧ F (tkn w s y) 9 = ((tn + 1 : Nat) : Int) ∧ A (tkn w s y) 6 tn = s ∧ A (tkn w s y) 7 tn = y ∧ ∀ r j, r ∈ [6, 7] → j ≠ tn → A (tkn w s y) r j = A w r j := by
  have et : (F w 9).toNat = tn := by omega
  unfold tkn
  rw [et]
  refine ⟨FR.wi (FR.wa (FR.wa (FR.wa FR.rf (by decide)) (by decide)) (by decide)) (by decide), ?_, ?_, ?_, fun r j _ hj => ?_⟩
  · rw [wi_eq ⟨by omega, by omega⟩]; omega
  · show A (wa (wa (wa w 6 tn s) 7 tn y) 8 tn (F w 11)) 6 tn = s
    rw [wa_rne (by decide), wa_rne (by decide)]; exact wa_eq rs
  · show A (wa (wa (wa w 6 tn s) 7 tn y) 8 tn (F w 11)) 7 tn = y
    rw [wa_rne (by decide)]; exact wa_eq ry
  · show A (wa (wa (wa w 6 tn s) 7 tn y) 8 tn (F w 11)) r j = _
    rw [wa_ne hj, wa_ne hj, wa_ne hj]
theorem numberToken_ok (hN : 200000 ≤ N) (h5 : 0 ≤ F w 5 ∧ F w 5 ≤ 4000) (h : RDI u w tn p bw) (hp : 0 ≤ p ∧ p < F w 5) (hc : dgB (byI w p)) : OK (fun x _ => ∃ (p2 : Int) (bw2 : Nat → Nat), RDI u x (tn + 1) p2 bw2 ∧ p + 1 ≤ p2) (fm_M_numberToken N w) := by
  obtain ⟨a1, ⟨a2, a3⟩, ⟨a4, a5⟩, ⟨a6, a6b, a6c⟩, a7, a8⟩ := id h
  have tl := TKI_le a5 a4 tn (Nat.le_refl _)
  unfold fm_M_numberToken fb_M_numberToken_0
  have dg_in : ∀ k : Int, 0 ≤ k → dgB (byI w k) → k < F w 5 := fun k hk q => by
    rcases Int.lt_or_le k (F w 5) with z | z
    · exact z
    · exfalso
      unfold byI at q
      rw [if_pos z] at q
      exact inB_no (Or.inr (Or.inr q))
  have loop : ∀ (d n : Nat) (m : Nat) (v1 : Int64) (v : MS), p + n + d = F w 5 → d + 1 ≤ m → FR [10] [] [] [] w v → F v 10 = p + n → OK (fun x _ => ∃ (p2 : Int) (bw2 : Nat → Nat), RDI u x (tn + 1) p2 bw2 ∧ p + 1 ≤ p2) (gg_M_numberToken N m v v1) := by
    have stop : ∀ (n : Nat) (v1 : Int64) (v : MS) (t1 : Int32) (s : Int) (G : MS → Int64 → Option (MS × Unit)), 1 ≤ n → p + n ≤ F w 5 → FR [10] [] [] [] w v → F v 10 = p + n → vp_nar .byte (t1.toInt8.toInt32) = I s → (s = 7 ∨ (s = 4 ∧ ¬ inB (byI w (p + n)))) → OK (fun x _ => ∃ (p2 : Int) (bw2 : Nat → Nat), RDI u x (tn + 1) p2 bw2 ∧ p + 1 ≤ p2) (fb_M_numberToken_90 N G v v1 t1) := fun n v1 v t1 s G hn hpn fv f10 ht hs => by
      unfold fb_M_numberToken_90
      have v9 : F v 9 = ((tn : Nat) : Int) := (fv.F (by decide)).trans a2
      refine k_token ht (I_of _) (by omega) (ok_some.mpr ⟨p + n, fun i => if i ≤ tn then bw i else (p + n).toNat, ?_, by omega⟩)
      have ry := ti_rng v1.toInt32
      have rs : RG s := by rcases hs with z | z <;> exact ⟨by omega, by omega⟩
      obtain ⟨t1', t2, t3, t4, t5⟩ := tkn_f (w := v) (s := s) (y := v1.toInt32.toInt) v9 (by omega) rs ry
      generalize tkn v s v1.toInt32.toInt = x at *
      have fx : FR [9, 10] [] [6, 7, 8] [] w x := FR.tr (FR.mo fv (by decide) (by decide) (by decide) (by decide)) (FR.mo t1' (by decide) (by decide) (by decide) (by decide))
      have eF : ∀ k, k ∉ [9, 10] → F x k = F w k := fun k hk => fx.F hk
      refine RDI_tok2 h (FR.mo fx (by decide) (by decide) (by decide) (by decide)) t2 ((t1'.F (by decide)).trans f10) t3 t4 (fun r j hr hj => by rw [t5 r j hr hj]; exact fv.A (by intro z; cases z)) ⟨by rw [eF 14 (by decide)]; exact Int.le_refl _, by rw [eF 17 (by decide)]; exact Int.le_refl _, by rw [eF 20 (by decide)]; exact Int.le_refl _⟩ ⟨by omega, by omega, by omega, by omega⟩ ?_ ?_ (fun q => ?_) (TBI_fr (FR.mo fx (by decide) (by decide) (by decide) (by decide)) a8 (by omega) (Or.inl (by omega)))
      · rcases hs with z | z <;> exact ⟨by omega, by omega, fun q => by omega, fun q => by omega, fun q => by omega, fun q => by omega⟩
      · rcases hs with z | z <;> exact ⟨fun q => by omega, fun q => by omega, fun q => by omega, fun q => by omega⟩
      · rcases hs with z | z
        · omega
        · rw [show (((p + n).toNat : Nat) : Int) = p + n by omega]; exact z.2
    intro d
    induction d with
    | zero =>
      intro n m v1 v hd hm fv f10
      obtain ⟨m', rfl⟩ : ∃ m', m = m' + 1 := ⟨m - 1, by omega⟩
      have bv : ∀ k, byI v k = byI w k := byI_fr (fun i => by rw [fv.2.2.1 4 (by intro z; cases z)]) (fv.F (by decide))
      have v5 : F v 5 = F w 5 := fv.F (by decide)
      show OK _ (fb_M_numberToken_2 N (gg_M_numberToken N m') v v1)
      unfold fb_M_numberToken_2 fb_M_numberToken_84
      refine k_byteAt (k := p + n) (I_F' f10) (by omega) (by omega) ?_
      rw [bv]
      refine k_digit (fun q => by have := dg_in _ (by omega) q; omega) (fun _ => ?_)
      rw [br00]
      refine ok_br.mpr ⟨fun _ => stop n v1 v 7 7 _ (by omega) (by omega) fv f10 rfl (Or.inl rfl), fun _ => ?_⟩
      refine k_byteAt (k := p + n) (I_F' f10) (by omega) (by omega) ?_
      rw [bv]
      refine k_inner (fun _ => ?_) (fun q => ?_)
      · rw [br10]; exact stop n v1 v 7 7 _ (by omega) (by omega) fv f10 rfl (Or.inl rfl)
      · rw [br00]; exact stop n v1 v 4 4 _ (by omega) (by omega) fv f10 rfl (Or.inr ⟨rfl, q⟩)
    | succ d ih =>
      intro n m v1 v hd hm fv f10
      obtain ⟨m', rfl⟩ : ∃ m', m = m' + 1 := ⟨m - 1, by omega⟩
      have bv : ∀ k, byI v k = byI w k := byI_fr (fun i => by rw [fv.2.2.1 4 (by intro z; cases z)]) (fv.F (by decide))
      have v5 : F v 5 = F w 5 := fv.F (by decide)
      show OK _ (fb_M_numberToken_2 N (gg_M_numberToken N m') v v1)
      unfold fb_M_numberToken_2 fb_M_numberToken_84
      refine k_byteAt (k := p + n) (I_F' f10) (by omega) (by omega) ?_
      rw [bv]
      refine k_digit (fun _ => ?_) (fun q => ?_)
      · rw [br10]
        have nx : ∀ t0, OK (fun x _ => ∃ (p2 : Int) (bw2 : Nat → Nat), RDI u x (tn + 1) p2 bw2 ∧ p + 1 ≤ p2) (fb_M_numberToken_47 N (gg_M_numberToken N m') v t0) := fun t0 => by
          unfold fb_M_numberToken_47
          have e : v.1 10 + 1 = I (p + ((n + 1 : Nat) : Int)) := by rw [I_F' f10, lit1q, I_add]; congr 1; omega
          rw [e, wi_e]
          exact ok_lt.mpr (ih (n + 1) m' t0 _ (by omega) (by omega) (FR.wi fv (by decide)) (wi_eq ⟨by omega, by omega⟩))
        refine ok_br.mpr ⟨fun _ => ?_, fun _ => nx _⟩
        exact k_byteAt (k := p + n) (I_F' f10) (by omega) (by omega) (nx _)
      · rw [br00]
        have hn : 1 ≤ n := by
          rcases Nat.eq_zero_or_pos n with z | z
          · subst z
            rw [show p + ((0 : Nat) : Int) = p by omega] at q
            exact absurd hc q
          · exact z
        refine ok_br.mpr ⟨fun _ => stop n v1 v 7 7 _ hn (by omega) fv f10 rfl (Or.inl rfl), fun _ => ?_⟩
        refine k_byteAt (k := p + n) (I_F' f10) (by omega) (by omega) ?_
        rw [bv]
        refine k_inner (fun _ => ?_) (fun q => ?_)
        · rw [br10]; exact stop n v1 v 7 7 _ hn (by omega) fv f10 rfl (Or.inl rfl)
        · rw [br00]; exact stop n v1 v 4 4 _ hn (by omega) fv f10 rfl (Or.inr ⟨rfl, q⟩)
  exact loop (F w 5 - p).toNat 0 N 0 w (by omega) (by omega) FR.rf (by omega)
end
