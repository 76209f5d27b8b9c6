set_option maxRecDepth 100000
section
variable {T : Nat → Option (Nat × Nat × List Nat × Nat × Nat)} {Fv : Int64 → Int64 → Prop} {P : Int64 → Prop} {u v w w1 : MS} {PR N q r n B W Y i h m g x j wb nb cb rk c f i2 h2 m2 g2 x2 j2 wb2 nb2 cb2 rk2 k a U d b e s l : Nat} {L L2 : List Nat} {ow kd : Nat → Nat} {t rest : Int64} {gi gl ga ki kl ka kj : List Nat}
theorem ENT_lt : ∀ {L : List Nat}, (∀ a, a < 4 * (cb + L.length) → A w (pq q 37) a = A u (pq q 37) a) → ENTc T u q c wb nb cb L → ENTc T w q c wb nb cb L
  | [], _, _ => trivial
  | t :: L, e, hh => by
    have el : (t :: L).length = L.length + 1 := rfl
    rw [el] at e
    obtain ⟨⟨a, b, c1, c2, c3, c4, c5⟩, d⟩ := hh
    exact ⟨⟨a, b, c1, by rw [e _ (by omega)]; exact c2, by rw [e _ (by omega)]; exact c3, by rw [e _ (by omega)]; exact c4, by rw [e _ (by omega)]; exact c5⟩, ENT_lt (fun a ha => e a (by omega)) d⟩
theorem FBc_lt (h0 : w.2.2.1 (pq q 30) = u.2.2.1 (pq q 30)) : ∀ {j wb nb cb rk : Nat}, (∀ a, a < 4 * cb → A w (pq q 37) a = A u (pq q 37) a) → FBc T u q j wb nb cb rk → FBc T w q j wb nb cb rk
  | 0, _, _, _, _, _, hh => hh
  | j + 1, wb, nb, cb, rk, e, hh => by
    have e0 : ∀ k, A w (pq q 30) k = A u (pq q 30) k := fun k => by show (w.2.2.1 (pq q 30) k).toInt = _; rw [h0]; rfl
    obtain ⟨wb0, nb0, cb0, rk0, h, m, L, a, b1, b2, b3, b4, b5, b6, b7, b8, b9, b9b, b10⟩ := hh
    exact ⟨wb0, nb0, cb0, rk0, h, m, L, a, FBc_lt h0 (fun a ha => e a (by omega)) b1, by rw [e0]; exact b2, by rw [e0]; exact b3, by rw [e0]; exact b4, b5, b6, b7, b8, b9, b9b, ENT_lt (fun a ha => e a (by omega)) b10⟩
def s37 (u : MS) (q k : Nat) (z : Int32) : MS := upA u (pq q 37) (upd (u.2.2.1 (pq q 37)) k z)
theorem s37_a {z : Int32} : A (s37 u q k z) (pq q 37) a = if a = k then z.toInt else A u (pq q 37) a := by
  show ((if pq q 37 = pq q 37 then upd (u.2.2.1 (pq q 37)) k z else u.2.2.1 (pq q 37)) a).toInt = _
  rw [if_pos rfl]
  unfold upd
  by_cases e : a = k
  · rw [if_pos e, if_pos e]
  · rw [if_neg e, if_neg e]; rfl
theorem s37_e {z : Int32} : upA u (pq q 37) (upd (u.2.2.1 (pq q 37)) k z) = s37 u q k z := rfl
theorem pow32_s {a l : Nat} (h : l = 32 * 2 ^ a) : 2 * l = 32 * 2 ^ (a + 1) := by rw [Nat.pow_succ]; omega
theorem catchTo_ok {z : Int32} (ln : LNB u q) (h28 : F u (pq q 28) = ((k : Nat) : Int)) (hk : k ≤ 1500) : OK (fun w _ => FC q [] [] [] [28, 47] [] [37] [] u w ∧ w.2.2.2 = u.2.2.2 ∧ F w (pq q 28) = ((k + 1 : Nat) : Int) ∧ LNB w q ∧ (∀ a, a < 4 * k → A w (pq q 37) a = A u (pq q 37) a) ∧ A w (pq q 37) (4 * k) = F u (pq q 21) ∧ A w (pq q 37) (4 * k + 1) = F u (pq q 24) ∧ A w (pq q 37) (4 * k + 2) = F u (pq q 26) ∧ A w (pq q 37) (4 * k + 3) = z.toInt) (hm_Fr_catchTo N u q z) := by
  unfold hm_Fr_catchTo hb_Fr_catchTo_0
  have main : ∀ u1, FC q [] [] [] [28, 47] [] [37] [] u u1 → u1.2.2.2 = u.2.2.2 → (∀ k, k ≠ 47 → k < 100 → u1.1 (pq q k) = u.1 (pq q k)) → LNB u1 q → 4 * ((k : Nat) : Int) < F u1 (pq q 47) → (∀ a, a < 4 * k → A u1 (pq q 37) a = A u (pq q 37) a) → OK (fun w _ => FC q [] [] [] [28, 47] [] [37] [] u w ∧ w.2.2.2 = u.2.2.2 ∧ F w (pq q 28) = ((k + 1 : Nat) : Int) ∧ LNB w q ∧ (∀ a, a < 4 * k → A w (pq q 37) a = A u (pq q 37) a) ∧ A w (pq q 37) (4 * k) = F u (pq q 21) ∧ A w (pq q 37) (4 * k + 1) = F u (pq q 24) ∧ A w (pq q 37) (4 * k + 2) = F u (pq q 26) ∧ A w (pq q 37) (4 * k + 3) = z.toInt) (hb_Fr_catchTo_34 N () u1 q z (I ((4 * k : Nat) : Int))) := by
    intro u1 f j4 o1 l1 hlt rA
    obtain ⟨l, l2, l3, l4, l5⟩ := LNB_47 l1
    unfold hb_Fr_catchTo_34
    rw [lnQ_e l2]
    refine e_in ⟨by omega, by omega⟩ (by omega) (ok_lt.mpr ?_)
    rw [tnI (n := 4 * k) rfl (by omega), s37_e, lit1q, I_add, show lnQ (s37 u1 q (4 * k) (u1.1 (pq q 21))) q 47 = l from lnQ_e l2]
    refine e_in ⟨by omega, by omega⟩ (by omega) (ok_lt.mpr ?_)
    rw [tnI (n := 4 * k + 1) (by omega) (by omega), s37_e, I_lit (n := 2), I_add, show ∀ z, lnQ (s37 (s37 u1 q (4 * k) (u1.1 (pq q 21))) q (4 * k + 1) z) q 47 = l from fun z => lnQ_e l2]
    refine e_in ⟨by show 0 ≤ _ + (2 : Int); omega, by show _ + (2 : Int) < _; omega⟩ (by omega) (ok_lt.mpr ?_)
    rw [tnI (n := 4 * k + 2) (by show _ + (2 : Int) = _; omega) (by omega), s37_e, I_lit (n := 3), I_add, show ∀ z z2, lnQ (s37 (s37 (s37 u1 q (4 * k) (u1.1 (pq q 21))) q (4 * k + 1) z) q (4 * k + 2) z2) q 47 = l from fun z z2 => lnQ_e l2]
    refine e_in ⟨by show 0 ≤ _ + (3 : Int); omega, by show _ + (3 : Int) < _; omega⟩ (by omega) (ok_lt.mpr (ok_lt.mpr (ok_some.mpr ?_)))
    rw [tnI (n := 4 * k + 3) (by show _ + (3 : Int) = _; omega) (by omega), s37_e]
    have i21 : (u1.1 (pq q 21)) = u.1 (pq q 21) := o1 21 (by omega) (by omega)
    have i24 : (s37 u1 q (4 * k) (u1.1 (pq q 21))).1 (pq q 24) = u.1 (pq q 24) := o1 24 (by omega) (by omega)
    rw [i24]
    have i26 : (s37 (s37 u1 q (4 * k) (u1.1 (pq q 21))) q (4 * k + 1) (u.1 (pq q 24))).1 (pq q 26) = u.1 (pq q 26) := o1 26 (by omega) (by omega)
    rw [i26, i21]
    have i28 : (s37 (s37 (s37 (s37 u1 q (4 * k) (u.1 (pq q 21))) q (4 * k + 1) (u.1 (pq q 24))) q (4 * k + 2) (u.1 (pq q 26))) q (4 * k + 3) z).1 (pq q 28) = I ((k : Nat) : Int) := by
      show u1.1 (pq q 28) = _
      rw [o1 28 (by omega) (by omega), I_F, h28]
    rw [i28, I_add, show ((k : Nat) : Int) + 1 = ((k + 1 : Nat) : Int) by omega, wi_e]
    have fA : ∀ {x : MS} {k : Nat} {z : Int32}, FC q [] [] [] [28, 47] [] [37] [] u x → FC q [] [] [] [28, 47] [] [37] [] u (s37 x q k z) := fun f => FC.A_q f (by omega) (by simp)
    have fz := fA (k := 4 * k + 3) (z := z) (fA (k := 4 * k + 2) (z := u.1 (pq q 26)) (fA (k := 4 * k + 1) (z := u.1 (pq q 24)) (fA (k := 4 * k) (z := u.1 (pq q 21)) f)))
    have zA : ∀ a, A (s37 (s37 (s37 (s37 u1 q (4 * k) (u.1 (pq q 21))) q (4 * k + 1) (u.1 (pq q 24))) q (4 * k + 2) (u.1 (pq q 26))) q (4 * k + 3) z) (pq q 37) a = if a = 4 * k + 3 then z.toInt else if a = 4 * k + 2 then F u (pq q 26) else if a = 4 * k + 1 then F u (pq q 24) else if a = 4 * k then F u (pq q 21) else A u1 (pq q 37) a := fun a => by
      rw [s37_a, s37_a, s37_a, s37_a]; rfl
    have z1 : (s37 (s37 (s37 (s37 u1 q (4 * k) (u.1 (pq q 21))) q (4 * k + 1) (u.1 (pq q 24))) q (4 * k + 2) (u.1 (pq q 26))) q (4 * k + 3) z).1 = u1.1 := rfl
    have z4 : (s37 (s37 (s37 (s37 u1 q (4 * k) (u.1 (pq q 21))) q (4 * k + 1) (u.1 (pq q 24))) q (4 * k + 2) (u.1 (pq q 26))) q (4 * k + 3) z).2.2.2 = u1.2.2.2 := rfl
    generalize s37 (s37 (s37 (s37 u1 q (4 * k) (u.1 (pq q 21))) q (4 * k + 1) (u.1 (pq q 24))) q (4 * k + 2) (u.1 (pq q 26))) q (4 * k + 3) z = y at fz zA z1 z4 ⊢
    have f2 : FC q [] [] [] [28, 47] [] [37] [] u (wi y (pq q 28) ((k + 1 : Nat) : Int)) := FC.wi_q fz (by omega) (by simp)
    have qA : ∀ a, A (wi y (pq q 28) ((k + 1 : Nat) : Int)) (pq q 37) a = A y (pq q 37) a := fun _ => rfl
    have lny : LNB y q := LNB_fc l1 (fun k _ => by rw [z1])
    have e47 : F (wi y (pq q 28) ((k + 1 : Nat) : Int)) (pq q 47) = ((l : Nat) : Int) := by
      rw [F_wi (by omega) (by omega), if_neg (pq_inj (by decide))]
      show (y.1 (pq q 47)).toInt = _
      rw [z1]; exact l2
    refine ⟨f2, z4.trans j4, by rw [F_wi (by omega) (by omega), if_pos rfl], ?_, fun a ha => ?_, ?_, ?_, ?_, ?_⟩
    · refine LNB_28 lny (fun k hk => if_neg (pq_inj (by simp at hk; omega))) ?_
      rw [F_wi (by omega) (by omega), if_pos rfl, show F y (pq q 47) = ((l : Nat) : Int) by show (y.1 (pq q 47)).toInt = _; rw [z1]; exact l2]
      have : 4 * k < l := by omega
      omega
    · rw [qA, zA, if_neg (by omega), if_neg (by omega), if_neg (by omega), if_neg (by omega)]; exact rA a ha
    · rw [qA, zA, if_neg (by omega), if_neg (by omega), if_neg (by omega), if_pos rfl]
    · rw [qA, zA, if_neg (by omega), if_neg (by omega), if_pos rfl]
    · rw [qA, zA, if_neg (by omega), if_pos rfl]
    · rw [qA, zA, if_pos rfl]
  obtain ⟨l, l1, l2, l3, l4⟩ := LNB_47 ln
  have hl := LNB_c ln
  rw [h28] at hl
  rw [I_F (k := pq q 28), h28, I_lit (n := 4), I_mul, show ((k : Nat) : Int) * (OfNat.ofNat 4 : Int) = ((4 * k : Nat) : Int) by show _ * (4 : Int) = _; omega, I_F (k := pq q 47)]
  refine k_lt ⟨by omega, by omega⟩ (FRG1 u _) (fun hh => main u FC.rf rfl (fun _ _ _ => rfl) ln (by omega) (fun _ _ => rfl)) (fun hh => ?_)
  rw [l1]
  refine ok_ck.mpr ⟨grw_I ⟨by omega, by omega⟩, ok_lt.mpr ?_⟩
  obtain ⟨g, g1, g2⟩ := gI_e (j := 37) l1 (by omega)
  rw [g1]
  have f2 : FC q [] [] [] [28, 47] [] [37] [] u (wi (upA u (pq q 37) g) (pq q 47) ((2 * l : Nat) : Int)) := FC.wi_q (FC.A_q FC.rf (by omega) (by simp)) (by omega) (by simp)
  have e47 : F (wi (upA u (pq q 37) g) (pq q 47) ((2 * l : Nat) : Int)) (pq q 47) = ((2 * l : Nat) : Int) := by rw [F_wi (by omega) (by omega), if_pos rfl]
  have o1 : ∀ k, k ≠ 47 → k < 100 → (wi (upA u (pq q 37) g) (pq q 47) ((2 * l : Nat) : Int)).1 (pq q k) = u.1 (pq q k) := fun k hk hk2 => if_neg (fun e => hk (pq_e hk2 (by omega) e).2)
  refine main _ f2 rfl o1 ?_ (by rw [e47]; omega) (fun a ha => ?_)
  · obtain ⟨n1, n2, a, a1, a2, -⟩ := ln
    have ea : l = 32 * 2 ^ a := by omega
    have oF : ∀ k, k ≠ 47 → k < 100 → F (wi (upA u (pq q 37) g) (pq q 47) ((2 * l : Nat) : Int)) (pq q k) = F u (pq q k) := fun k h1 h2 => congrArg _ (o1 k h1 h2)
    refine ⟨by rw [oF 45 (by omega) (by omega)]; exact n1, by rw [oF 43 (by omega) (by omega), oF 42 (by omega) (by omega)]; exact n2, a + 1, ?_, by rw [e47, pow32_s ea], by rw [oF 28 (by omega) (by omega), e47, h28]; omega⟩
    rcases Nat.lt_or_ge a 8 with h9 | h9
    · omega
    · have : a = 8 := by omega
      subst this
      have e : 2 ^ 8 = 256 := rfl
      omega
  · show ((if pq q 37 = pq q 37 then g else u.2.2.1 (pq q 37)) a).toInt = _
    rw [if_pos rfl, g2 a (by omega)]; rfl
end
