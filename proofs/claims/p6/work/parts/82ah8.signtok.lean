def SGT (u : MS) : Prop := (∀ k, k < 18 → A u 22 (2 * k + 1) ≠ 10) ∧ ∀ k, k < 7 → A u 21 (3 * k + 1) ≠ -1
section
variable {u w x v : MS} {N tn e n : Nat} {p p2 s y : Int} {bw : Nat → Nat} {c r : Int32}
theorem signToken_ok (hN : 200000 ≤ N) (h5 : 0 ≤ F w 5 ∧ F w 5 ≤ 4000) (sg : SGT w) (h : RDI u w tn p bw) (hp : 0 ≤ p ∧ p < F w 5) : OK (fun x _ => ∃ (p2 : Int) (bw2 : Nat → Nat), RDI u x (tn + 1) p2 bw2 ∧ p + 1 ≤ p2) (fm_M_signToken N w c) := by
  obtain ⟨a1, ⟨a2, a3⟩, ⟨a4, a5⟩, ⟨a6, a6b, a6c⟩, a7, a8⟩ := id h
  have tl := TKI_le a5 a4 tn (Nat.le_refl _)
  unfold fm_M_signToken fb_M_signToken_0
  have e1 : w.1 10 + 1 = I (p + 1) := by rw [I_F' a3, lit1q, I_add]
  refine k_byteAt (k := p + 1) e1 (by omega) h5 ?_
  have fin : ∀ (G : (MS → Int32 → Int32 → Int32 → Int32 → Int32 → Option (MS × Unit)) × (MS → Int32 → Int32 → Int32 → Int32 → Int32 → Option (MS × Unit))) (sv : Int32) (nn : Int) (t1 : Int32) (st : Int), ((nn = 1 ∧ sv ≠ 10) ∨ (nn = 2 ∧ p + 1 < F w 5)) → vp_nar .byte (t1.toInt8.toInt32) = I st → (st = 7 ∨ st = 6) → OK (fun x _ => ∃ (p2 : Int) (bw2 : Nat → Nat), RDI u x (tn + 1) p2 bw2 ∧ p + 1 ≤ p2) (fb_M_signToken_129 N G w sv (I nn) t1) := fun G sv nn t1 st hs ht hst => by
    unfold fb_M_signToken_129
    have ry := ti_rng sv
    have rs : RG st := by rcases hst with z | z <;> exact ⟨by omega, by omega⟩
    refine k_token ht (I_of sv) (by omega) ?_
    obtain ⟨t1', t2, t3, t4, t5⟩ := tkn_f (w := w) (s := st) (y := sv.toInt) a2 (by omega) rs ry
    generalize tkn w st sv.toInt = X at *
    have x10 : F X 10 = p := (t1'.F (by decide)).trans a3
    rw [I_F' x10, I_add, wi_e]
    have nn2 : 1 ≤ nn ∧ p + nn ≤ F w 5 ∧ nn ≤ 2 := by rcases hs with z | z <;> omega
    refine ok_lt.mpr (ok_some.mpr ⟨p + nn, fun i => if i ≤ tn then bw i else (p + nn).toNat, ?_, by omega⟩)
    have fx : FR [9, 10] [] [6, 7, 8] [] w (wi X 10 (p + nn)) := FR.wi (FR.mo t1' (by decide) (by decide) (by decide) (by decide)) (by decide)
    have eF : ∀ k, k ∉ [9, 10] → F (wi X 10 (p + nn)) k = F w k := fun k hk => fx.F hk
    refine RDI_tok2 h (FR.mo fx (by decide) (by decide) (by decide) (by decide)) ((wi_ne (by decide)).trans t2) (wi_eq ⟨by omega, by omega⟩) t3 t4 (fun r j hr hj => t5 r j hr hj) ⟨by rw [eF 14 (by decide)]; exact Int.le_refl _, by rw [eF 17 (by decide)]; exact Int.le_refl _, by rw [eF 20 (by decide)]; exact Int.le_refl _⟩ ⟨by omega, by omega, by omega, by omega⟩ ?_ ⟨fun q => by omega, fun q1 q2 => ?_, fun q => by omega, fun q => by omega⟩ (fun q => by omega) (TBI_fr (FR.mo fx (by decide) (by decide) (by decide) (by decide)) a8 (by omega) (Or.inl (by omega)))
    · rcases hst with z | z <;> exact ⟨by omega, by omega, fun q => by omega, fun q => by omega, fun q => by omega, fun q => by omega⟩
    · rcases hs with z | z
      · exfalso
        apply z.2
        rw [I_of sv, q2]; rfl
      · omega
  have l2 : ∀ (d k m : Nat) (sv : Int32) (nn : Int), k + d = 7 → d + 1 ≤ m → ((nn = 1 ∧ sv ≠ 10) ∨ (nn = 2 ∧ p + 1 < F w 5)) → OK (fun x _ => ∃ (p2 : Int) (bw2 : Nat → Nat), RDI u x (tn + 1) p2 bw2 ∧ p + 1 ≤ p2) ((gg_M_signToken N m).2 w c (byI w (p + 1)) sv (I nn) (I ((3 * k : Nat) : Int))) := by
    intro d
    induction d with
    | zero =>
      intro k m sv nn hk hm hs
      obtain ⟨m', rfl⟩ : ∃ m', m = m' + 1 := ⟨m - 1, by omega⟩
      obtain rfl : k = 7 := by omega
      show OK _ (fb_M_signToken_63 N (gg_M_signToken N m') w c (byI w (p + 1)) sv (I nn) (I ((3 * 7 : Nat) : Int)))
      unfold fb_M_signToken_63
      show OK _ (br (decide (sv = -1)) _ _)
      exact ok_br.mpr ⟨fun _ => fin _ sv nn 7 7 hs rfl (Or.inl rfl), fun _ => fin _ sv nn 6 6 hs rfl (Or.inr rfl)⟩
    | succ d ih =>
      intro k m sv nn hk hm hs
      obtain ⟨m', rfl⟩ : ∃ m', m = m' + 1 := ⟨m - 1, by omega⟩
      show OK _ (fb_M_signToken_63 N (gg_M_signToken N m') w c (byI w (p + 1)) sv (I nn) (I ((3 * k : Nat) : Int)))
      unfold fb_M_signToken_63 fb_M_signToken_110
      have e0 : Int32.ofNat (ln 21) = I 21 := rfl
      have ek : (I ((3 * k : Nat) : Int)).toNatClampNeg = 3 * k := by rw [I_tn (by omega) (by omega)]; omega
      have ek1 : I ((3 * k : Nat) : Int) + 1 = I ((3 * k + 1 : Nat) : Int) := by rw [lit1q, I_add]; rfl
      have ek2 : I ((3 * k : Nat) : Int) + 2 = I ((3 * k + 2 : Nat) : Int) := by rw [show (2 : Int32) = I 2 from rfl, I_add]; rfl
      have ek3 : I ((3 * k : Nat) : Int) + 3 = I ((3 * (k + 1) : Nat) : Int) := by rw [show (3 : Int32) = I 3 from rfl, I_add]; congr 1
      have ec1 : (I ((3 * k + 1 : Nat) : Int)).toNatClampNeg = 3 * k + 1 := by rw [I_tn (by omega) (by omega)]; omega
      rw [e0, ek, ek1, ek2, ek3, ec1]
      refine k_le (x := 21) (y := ((3 * k : Nat) : Int)) ⟨by decide, by decide⟩ ⟨by omega, by omega⟩ (fun q => by omega) (fun _ => ?_)
      have nx := ih (k + 1) m' sv nn (by omega) (by omega) hs
      refine k_in (k := 21) (n := 21) rfl (by decide) (by omega) (ok_br.mpr ⟨fun _ => ?_, fun _ => nx⟩)
      refine k_in (k := 21) (n := 21) rfl (by decide) (by omega) (ok_br.mpr ⟨fun q => ?_, fun _ => nx⟩)
      refine k_in (k := 21) (n := 21) rfl (by decide) (by omega) (ok_lt.mpr ?_)
      refine ih (k + 1) m' _ 2 (by omega) (by omega) (Or.inr ⟨rfl, ?_⟩)
      have q' := of_decide_eq_true q
      rcases Int.lt_or_le (p + 1) (F w 5) with z | z
      · exact z
      · exfalso
        unfold byI at q'
        rw [if_pos z] at q'
        refine sg.2 k (by omega) ?_
        show (w.2.2.1 21 (3 * k + 1)).toInt = -1
        rw [q']; rfl
  have l1 : ∀ (d k m : Nat) (sv : Int32), k + d = 18 → d + 10 ≤ m → sv ≠ 10 → OK (fun x _ => ∃ (p2 : Int) (bw2 : Nat → Nat), RDI u x (tn + 1) p2 bw2 ∧ p + 1 ≤ p2) ((gg_M_signToken N m).1 w c (byI w (p + 1)) sv (I 1) (I ((2 * k : Nat) : Int))) := by
    intro d
    induction d with
    | zero =>
      intro k m sv hk hm hs
      obtain ⟨m', rfl⟩ : ∃ m', m = m' + 1 := ⟨m - 1, by omega⟩
      obtain rfl : k = 18 := by omega
      show OK _ (fb_M_signToken_19 N (gg_M_signToken N m') w c (byI w (p + 1)) sv (I 1) (I ((2 * 18 : Nat) : Int)))
      unfold fb_M_signToken_19
      exact l2 7 0 m' sv 1 rfl (by omega) (Or.inl ⟨rfl, hs⟩)
    | succ d ih =>
      intro k m sv hk hm hs
      obtain ⟨m', rfl⟩ : ∃ m', m = m' + 1 := ⟨m - 1, by omega⟩
      show OK _ (fb_M_signToken_19 N (gg_M_signToken N m') w c (byI w (p + 1)) sv (I 1) (I ((2 * k : Nat) : Int)))
      unfold fb_M_signToken_19 fb_M_signToken_53
      have e0 : Int32.ofNat (ln 22) = I 36 := rfl
      have ek : (I ((2 * k : Nat) : Int)).toNatClampNeg = 2 * k := by rw [I_tn (by omega) (by omega)]; omega
      have ek1 : I ((2 * k : Nat) : Int) + 1 = I ((2 * k + 1 : Nat) : Int) := by rw [lit1q, I_add]; rfl
      have ek2 : I ((2 * k : Nat) : Int) + 2 = I ((2 * (k + 1) : Nat) : Int) := by rw [show (2 : Int32) = I 2 from rfl, I_add]; congr 1
      have ec1 : (I ((2 * k + 1 : Nat) : Int)).toNatClampNeg = 2 * k + 1 := by rw [I_tn (by omega) (by omega)]; omega
      rw [e0, ek, ek1, ek2, ec1]
      refine k_le (x := 36) (y := ((2 * k : Nat) : Int)) ⟨by decide, by decide⟩ ⟨by omega, by omega⟩ (fun q => by omega) (fun _ => ?_)
      refine k_in (k := 22) (n := 36) rfl (by decide) (by omega) (ok_br.mpr ⟨fun _ => ?_, fun _ => ih (k + 1) m' sv (by omega) (by omega) hs⟩)
      refine k_in (k := 22) (n := 36) rfl (by decide) (by omega) (ih (k + 1) m' _ (by omega) (by omega) (fun q => sg.1 k (by omega) ?_))
      show (w.2.2.1 22 (2 * k + 1)).toInt = 10
      rw [q]; rfl
  exact l1 18 0 N (-1) rfl (by omega) (by decide)
end
