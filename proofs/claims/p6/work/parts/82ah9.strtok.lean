section
variable {u w x v : MS} {N tn e n : Nat} {p p2 s y : Int} {bw : Nat → Nat} {c r : Int32}
theorem TBI_st (h : TBI w p) (hp : p + 2 + n ≤ p2) (h20 : F w 20 ≤ 2000) (f : FR [9, 10, 11, 20] [] [6, 7, 8, 18, 19] [] w x) (x20 : F x 20 = F w 20 + 1) (xn : A x 19 ((F w 20).toNat + 1) = A w 19 (F w 20).toNat + n) (xo : ∀ i, i ≠ (F w 20).toNat + 1 → A x 19 i = A w 19 i) (hx : A w 19 (F w 20).toNat + n ≤ 4002) : TBI x p2 := by
  have eF : ∀ k, k ∈ [5, 14, 17] → F x k = F w k := fun k hk => f.F (by
    have : ∀ k, k ∈ [5, 14, 17] → k ∉ [9, 10, 11, 20] := by decide
    exact this k hk)
  have eA : ∀ r i, r ∈ [12, 13, 15, 16] → A x r i = A w r i := fun r i hr => f.A (by
    have : ∀ r, r ∈ [12, 13, 15, 16] → r ∉ [6, 7, 8, 18, 19] := by decide
    exact this r hr)
  have e15 : ∀ i, x.2.2.1 15 i = w.2.2.1 15 i := fun i => by rw [f.2.2.1 15 (by decide)]
  obtain ⟨z0, ⟨a1, ⟨a2, a3, a4⟩, a5⟩, ⟨⟨b1, b2, b3⟩, b4, b5⟩, n1, n2, ⟨c1, ⟨c2, c3⟩, seen, c4, c5⟩, c6, c7, c8, c9⟩ := h
  have bt := b3 (F w 20).toNat (by omega)
  refine ⟨⟨by rw [eA 13 _ (by decide)]; exact z0.1, by rw [eA 16 _ (by decide)]; exact z0.2.1, by rw [xo 0 (by omega)]; exact z0.2.2⟩, ⟨?_, ⟨?_, ?_, fun k hk => ?_⟩, ?_⟩, ⟨⟨by omega, by omega, fun k hk => ?_⟩, by omega, ?_⟩, n1, n2, ⟨?_, ⟨c2, fun k hk => ?_⟩, seen, c4, fun c hc => ?_⟩, ?_, ?_, ?_, fun q => ?_⟩
  · rw [eF 14 (by decide)]; exact a1
  · rw [eF 14 (by decide)]; exact a2
  · rw [eF 14 (by decide)]; exact a3
  · rw [eF 14 (by decide)] at hk ⊢; rw [eA 13 _ (by decide), eA 13 _ (by decide)]; exact a4 k hk
  · rw [eF 14 (by decide), eA 13 _ (by decide)]; omega
  · rw [x20] at hk ⊢
    by_cases z : k = (F w 20).toNat + 1
    · rw [z, xn]; exact ⟨by omega, hx, fun q => by omega⟩
    · have bk := b3 k (by omega)
      rw [xo k z]
      refine ⟨bk.1, bk.2.1, fun q => ?_⟩
      by_cases z2 : k = (F w 20).toNat
      · rw [z2, xn]; omega
      · rw [xo (k + 1) (by omega)]; exact bk.2.2 (by omega)
  · rw [x20, show (F w 20 + 1).toNat = (F w 20).toNat + 1 by omega, xn]; omega
  · rw [eF 17 (by decide)]; exact c1
  · rw [eA 16 _ (by decide), eA 16 _ (by decide)]; exact c3 k hk
  · obtain ⟨k, d1, d2, d3⟩ := c5 c hc
    exact ⟨k, d1, by rw [eA 16 _ (by decide), eA 16 _ (by decide)]; exact d2, by rw [eA 16 _ (by decide), e15]; exact d3⟩
  · rw [eA 16 _ (by decide)]; omega
  · rw [eF 14 (by decide), eF 5 (by decide)]; exact c7
  · rw [eF 14 (by decide)]; omega
  · rw [eF 14 (by decide)]; omega
theorem stringToken_ok (hN : 200000 ≤ N) (h5 : 0 ≤ F w 5 ∧ F w 5 ≤ 4000) (h : RDI u w tn p bw) (hp : 0 ≤ p ∧ p < F w 5) : OK (fun x _ => ∃ (p2 : Int) (bw2 : Nat → Nat), RDI u x (tn + 1) p2 bw2 ∧ p + 1 ≤ p2) (fm_M_stringToken N w) := by
  obtain ⟨a1, ⟨a2, a3⟩, ⟨a4, a5⟩, ⟨a6, a6b, a6c⟩, a7, a8⟩ := id h
  have tl := TKI_le a5 a4 tn (Nat.le_refl _)
  obtain ⟨-, -, ⟨⟨b1, b2, b3⟩, b4, b5⟩, -⟩ := id a8
  have bt := b3 (F w 20).toNat (by omega)
  unfold fm_M_stringToken fb_M_stringToken_0
  have e1 : w.1 10 + 1 = I (p + 1) := by rw [I_F' a3, lit1q, I_add]
  rw [e1, wi_e]
  refine ok_lt.mpr ?_
  have fin : ∀ (n : Nat) (v : MS) (v2 : Int32) (G : MS → Int32 → Int32 → Option (MS × Unit)), p + 1 + n ≤ F w 5 → (v2 = 0 ∨ p + 2 + n ≤ F w 5) → FR [10] [] [18] [] w v → F v 10 = p + 1 + n → OK (fun x _ => ∃ (p2 : Int) (bw2 : Nat → Nat), RDI u x (tn + 1) p2 bw2 ∧ p + 1 ≤ p2) (fb_M_stringToken_102 N G v (I n) v2) := fun n v v2 G hn hv fv f10 => by
    unfold fb_M_stringToken_102 fb_M_stringToken_123
    have e2 : v.1 10 + 1 = I (p + 2 + n) := by rw [I_F' f10, lit1q, I_add]; congr 1; omega
    rw [e2, wi_e]
    refine ok_lt.mpr ?_
    have fV : FR [10] [] [18] [] w (wi v 10 (p + 2 + n)) := FR.wi fv (by decide)
    have V10 : F (wi v 10 (p + 2 + n)) 10 = p + 2 + n := wi_eq ⟨by omega, by omega⟩
    generalize wi v 10 (p + 2 + n) = V at *
    have V9 : F V 9 = ((tn : Nat) : Int) := (fV.F (by decide)).trans a2
    have V20 : F V 20 = F w 20 := fV.F (by decide)
    have tok : ∀ (t1 : Int32) (st : Int), vp_nar .byte (t1.toInt8.toInt32) = I st → (st = 7 ∨ (st = 5 ∧ p + 2 + n ≤ F w 5)) → OK (fun x _ => ∃ (p2 : Int) (bw2 : Nat → Nat), RDI u x (tn + 1) p2 bw2 ∧ p + 1 ≤ p2) (bnd (fm_M_token N V t1 (V.1 20)) (fun u1 _ => ck (inb (u1.1 20) (ln 19)) (ck (inb ((u1.1 20) + 1) (ln 19)) (lt (upA u1 19 (upd (u1.2.2.1 19) ((u1.1 20) + 1).toNatClampNeg ((u1.2.2.1 19 (u1.1 20).toNatClampNeg) + I n))) (fun w2 => lt (upI w2 20 ((w2.1 20) + 1)) (fun w3 => some (w3, ()))))))) := fun t1 st ht hst => by
      have rs : RG st := by rcases hst with z | z <;> exact ⟨by omega, by omega⟩
      refine k_token ht (I_F' V20) (by omega) ?_
      obtain ⟨t1', t2, t3, t4, t5⟩ := tkn_f (w := V) (s := st) (y := F w 20) V9 (by omega) rs ⟨by omega, by omega⟩
      generalize tkn V st (F w 20) = X at *
      have X20 : F X 20 = F w 20 := (t1'.F (by decide)).trans V20
      have X19 : ∀ i, A X 19 i = A w 19 i := fun i => by rw [t1'.A (by decide), fV.A (by decide)]
      have e3 : X.1 20 + 1 = I (F w 20 + 1) := by rw [I_F' X20, lit1q, I_add]
      have e4 : (I (F w 20 + 1)).toNatClampNeg = (F w 20).toNat + 1 := by rw [I_tn (by omega) (by omega)]; omega
      have e5 : X.2.2.1 19 (I (F w 20)).toNatClampNeg = I (A w 19 (F w 20).toNat) := by rw [I_tn (by omega) (by omega)]; exact I_A' (X19 _)
      rw [e3, I_F' X20, e4, e5, I_add, wa_e]
      refine k_in (k := 19) (n := 2002) rfl (by decide) (by omega) (k_in (k := 19) (n := 2002) rfl (by decide) (by omega) (ok_lt.mpr ?_))
      have Y20 : F (wa X 19 ((F w 20).toNat + 1) (A w 19 (F w 20).toNat + n)) 20 = F w 20 := by rw [F_wa]; exact X20
      have e6 : (wa X 19 ((F w 20).toNat + 1) (A w 19 (F w 20).toNat + n)).1 20 + 1 = I (F w 20 + 1) := by rw [I_F' Y20, lit1q, I_add]
      rw [e6, wi_e]
      have rv : RG (A w 19 (F w 20).toNat + n) := ⟨by omega, by omega⟩
      have fx : FR [9, 10, 20] [] [6, 7, 8, 18, 19] [] w (wi (wa X 19 ((F w 20).toNat + 1) (A w 19 (F w 20).toNat + n)) 20 (F w 20 + 1)) := FR.wi (FR.wa (FR.tr (FR.mo fV (by decide) (by decide) (by decide) (by decide)) (FR.mo t1' (by decide) (by decide) (by decide) (by decide))) (by decide)) (by decide)
      have x20 : F (wi (wa X 19 ((F w 20).toNat + 1) (A w 19 (F w 20).toNat + n)) 20 (F w 20 + 1)) 20 = F w 20 + 1 := wi_eq ⟨by omega, by omega⟩
      have x9 : F (wi (wa X 19 ((F w 20).toNat + 1) (A w 19 (F w 20).toNat + n)) 20 (F w 20 + 1)) 9 = ((tn + 1 : Nat) : Int) := by rw [wi_ne (by decide), F_wa]; exact t2
      have x10 : F (wi (wa X 19 ((F w 20).toNat + 1) (A w 19 (F w 20).toNat + n)) 20 (F w 20 + 1)) 10 = p + 2 + n := by rw [wi_ne (by decide), F_wa]; exact (t1'.F (by decide)).trans V10
      have x19 : A (wi (wa X 19 ((F w 20).toNat + 1) (A w 19 (F w 20).toNat + n)) 20 (F w 20 + 1)) 19 ((F w 20).toNat + 1) = A w 19 (F w 20).toNat + n := wa_eq (u := X) rv
      have x19o : ∀ i, i ≠ (F w 20).toNat + 1 → A (wi (wa X 19 ((F w 20).toNat + 1) (A w 19 (F w 20).toNat + n)) 20 (F w 20 + 1)) 19 i = A w 19 i := fun i hi => by
        show A (wa X 19 ((F w 20).toNat + 1) (A w 19 (F w 20).toNat + n)) 19 i = _
        rw [wa_ne hi]; exact X19 i
      have xr : ∀ r i, r ≠ 19 → A (wi (wa X 19 ((F w 20).toNat + 1) (A w 19 (F w 20).toNat + n)) 20 (F w 20 + 1)) r i = A X r i := fun r i hr => by
        show A (wa X 19 ((F w 20).toNat + 1) (A w 19 (F w 20).toNat + n)) r i = _
        exact wa_rne hr
      generalize wi (wa X 19 ((F w 20).toNat + 1) (A w 19 (F w 20).toNat + n)) 20 (F w 20 + 1) = Y at *
      have eF : ∀ k, k ∉ [9, 10, 20] → F Y k = F w k := fun k hk => fx.F hk
      have m67 : ∀ r, r ∈ [6, 7] → r ≠ 19 ∧ r ∉ [18] := by decide
      have tb := TBI_st (n := n) (p2 := p + 2 + n) a8 (Int.le_refl _) (by omega) (FR.mo fx (by decide) (by decide) (by decide) (by decide)) x20 x19 x19o (by omega)
      refine ok_lt.mpr (ok_some.mpr ⟨p + 2 + n, fun i => if i ≤ tn then bw i else (if p + 2 + n ≤ F w 5 then (p + 2 + n).toNat else (F w 5).toNat), ?_, by omega⟩)
      have ee : ∃ e : Nat, e = (if p + 2 + n ≤ F w 5 then (p + 2 + n).toNat else (F w 5).toNat) ∧ p + 1 ≤ e ∧ (e : Int) ≤ p + 2 + n ∧ (e : Int) ≤ F w 5 ∧ (p + 2 + n ≤ F w 5 → p + 2 ≤ e) := by
        refine ⟨_, rfl, ?_⟩
        split <;> omega
      obtain ⟨e, e7, e8, e9, e10, e11⟩ := ee
      rw [← e7]
      refine RDI_tok2 h (FR.mo fx (by decide) (by decide) (by decide) (by decide)) x9 x10 ((xr 6 tn (by decide)).trans t3) ((xr 7 tn (by decide)).trans t4) (fun r j hr hj => by rw [xr r j (m67 r hr).1, t5 r j hr hj]; exact fV.A (m67 r hr).2) ⟨by rw [eF 14 (by decide)]; exact Int.le_refl _, by rw [eF 17 (by decide)]; exact Int.le_refl _, by omega⟩ ⟨by omega, e9, e10, by omega⟩ ?_ ?_ (fun q => ?_) tb
      · rcases hst with z | z <;> exact ⟨by omega, by omega, fun q => by omega, fun q => by omega, fun q => by omega, fun q => by omega⟩
      · refine ⟨fun q => ?_, fun q => ?_, fun q => ?_, fun q => ?_⟩
        · rcases hst with z | z <;> omega
        · rcases hst with z | z <;> omega
        · rcases hst with z | z
          · omega
          · have := e11 z.2; omega
        · rcases hst with z | z <;> omega
      · rcases hst with z | z <;> omega
    refine ok_br.mpr ⟨fun _ => tok 7 7 rfl (Or.inl rfl), fun q => tok 5 5 rfl (Or.inr ⟨rfl, ?_⟩)⟩
    rcases hv with z | z
    · exact absurd z (of_decide_eq_false q)
    · exact z
  have bad : ∀ (n m : Nat) (v : MS), 1 ≤ m → p + 1 + n ≤ F w 5 → FR [10] [] [18] [] w v → F v 10 = p + 1 + n → OK (fun x _ => ∃ (p2 : Int) (bw2 : Nat → Nat), RDI u x (tn + 1) p2 bw2 ∧ p + 1 ≤ p2) (gg_M_stringToken N m v (I n) 0) := fun n m v hm hn fv f10 => by
    obtain ⟨m', rfl⟩ : ∃ m', m = m' + 1 := ⟨m - 1, by omega⟩
    show OK _ (fb_M_stringToken_14 N (gg_M_stringToken N m') v (I n) 0)
    unfold fb_M_stringToken_14
    rw [br00]
    exact fin n v 0 _ hn (Or.inl rfl) fv f10
  have loop : ∀ (d n m : Nat) (v : MS), n + d = 40 → d + 3 ≤ m → p + 1 + n ≤ F w 5 → FR [10] [] [18] [] w v → F v 10 = p + 1 + n → OK (fun x _ => ∃ (p2 : Int) (bw2 : Nat → Nat), RDI u x (tn + 1) p2 bw2 ∧ p + 1 ≤ p2) (gg_M_stringToken N m v (I n) 1) := by
    intro d
    induction d with
    | zero =>
      intro n m v hd hm hn fv f10
      obtain ⟨m', rfl⟩ : ∃ m', m = m' + 1 := ⟨m - 1, by omega⟩
      have v5 : F v 5 = F w 5 := fv.F (by decide)
      have bv : ∀ k, byI v k = byI w k := byI_fr (fun i => by rw [fv.2.2.1 4 (by decide)]) v5
      show OK _ (fb_M_stringToken_14 N (gg_M_stringToken N m') v (I n) 1)
      unfold fb_M_stringToken_14 fb_M_stringToken_62 fb_M_stringToken_63 fb_M_stringToken_99
      rw [br10]
      refine k_byteAt (k := p + 1 + n) (I_F' f10) (by omega) (by omega) ?_
      refine ok_br.mpr ⟨fun q => fin n v 1 _ hn (Or.inr ?_) fv f10, fun _ => ?_⟩
      · have q' := of_decide_eq_true q
        rcases Int.lt_or_le (p + 1 + n) (F w 5) with z | z
        · omega
        · exfalso
          unfold byI at q'
          rw [if_pos (by omega)] at q'
          exact absurd q' (by decide)
      · have b := bad n m' v (by omega) hn fv f10
        have e40 : (40 : Int32) = I 40 := rfl
        refine k_byteAt (k := p + 1 + n) (I_F' f10) (by omega) (by omega) ?_
        refine ok_br.mpr ⟨fun _ => b, fun _ => ok_br.mpr ⟨fun _ => b, fun _ => ?_⟩⟩
        rw [e40]
        exact k_le (x := 40) (y := (n : Int)) ⟨by decide, by decide⟩ ⟨by omega, by omega⟩ (fun _ => b) (fun q => by omega)
    | succ d ih =>
      intro n m v hd hm hn fv f10
      obtain ⟨m', rfl⟩ : ∃ m', m = m' + 1 := ⟨m - 1, by omega⟩
      have v5 : F v 5 = F w 5 := fv.F (by decide)
      have v20 : F v 20 = F w 20 := fv.F (by decide)
      show OK _ (fb_M_stringToken_14 N (gg_M_stringToken N m') v (I n) 1)
      unfold fb_M_stringToken_14 fb_M_stringToken_62 fb_M_stringToken_63 fb_M_stringToken_99
      rw [br10]
      refine k_byteAt (k := p + 1 + n) (I_F' f10) (by omega) (by omega) ?_
      refine ok_br.mpr ⟨fun q => fin n v 1 _ hn (Or.inr ?_) fv f10, fun _ => ?_⟩
      · have q' := of_decide_eq_true q
        rcases Int.lt_or_le (p + 1 + n) (F w 5) with z | z
        · omega
        · exfalso
          unfold byI at q'
          rw [if_pos (by omega)] at q'
          exact absurd q' (by decide)
      · have b := bad n m' v (by omega) hn fv f10
        have e40 : (40 : Int32) = I 40 := rfl
        refine k_byteAt (k := p + 1 + n) (I_F' f10) (by omega) (by omega) ?_
        refine ok_br.mpr ⟨fun _ => b, fun q32 => ok_br.mpr ⟨fun _ => b, fun _ => ?_⟩⟩
        have lt5 : p + 1 + n < F w 5 := by
          rcases Int.lt_or_le (p + 1 + n) (F w 5) with z | z
          · exact z
          · exfalso
            have q' := of_decide_eq_false q32
            unfold byI at q'
            rw [if_pos (by omega)] at q'
            exact q' (by decide)
        rw [e40]
        refine k_le (x := 40) (y := (n : Int)) ⟨by decide, by decide⟩ ⟨by omega, by omega⟩ (fun _ => b) (fun _ => ?_)
        show OK _ (ck (inb (v.1 20) (ln 19)) _)
        have e5 : v.2.2.1 19 (v.1 20).toNatClampNeg + I (n : Int) = I (A w 19 (F w 20).toNat + n) := by
          rw [tn_F, v20, I_A, fv.A (by decide), I_add]
        rw [e5]
        refine k_at (k := 19) (n := 2002) rfl (by decide) (by omega) (k_in (k := 18) (n := 4002) rfl (by decide) (by omega) (ok_lt.mpr ?_))
        rw [I_of (vp_nar .byte ((byI v (p + 1 + n)).toInt8.toInt32)), wa_e]
        have e6 : (wa v 18 (I (A w 19 (F w 20).toNat + n)).toNatClampNeg (vp_nar .byte ((byI v (p + 1 + n)).toInt8.toInt32)).toInt).1 10 + 1 = I (p + 1 + ((n + 1 : Nat) : Int)) := by
          rw [I_F (k := 10), F_wa, f10, lit1q, I_add]; congr 1; omega
        have e7 : I (n : Int) + 1 = I ((n + 1 : Nat) : Int) := by rw [lit1q, I_add]; rfl
        rw [e6, e7, wi_e]
        exact ok_lt.mpr (ih (n + 1) m' _ (by omega) (by omega) (by omega) (FR.wi (FR.wa fv (by decide)) (by decide)) (wi_eq ⟨by omega, by omega⟩))
  exact loop 40 0 N (wi w 10 (p + 1)) rfl (by omega) (by omega) (FR.wi FR.rf (by decide)) (by rw [wi_eq ⟨by omega, by omega⟩]; omega)
end
