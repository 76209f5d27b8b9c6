def HLP (σ1 : Nat) (u v : MS) (i : Nat) : Prop := FR [58] [] [57] [] u v ∧ F v 58 = F u 58 + i ∧ (∀ t, t < i → A v 57 ((F u 58).toNat + t) = A u 62 (1400 * σ1 + t)) ∧ ∀ t : Nat, (t : Int) < F u 58 → A v 57 t = A u 57 t
def fnE (N : Nat) (v1 v2 v3 : Int32) (u : MS) : Option (MS × Int32) := lt (upI u 65 ((u.1 65) - 1)) (fun w1 => ck (inb v3 (ln 25)) (lt (upA w1 25 (upd (w1.2.2.1 25) v3.toNatClampNeg (w1.1 32))) (fun w2 => bnd (fm_M_node N w2 14 v1) (fun u3 r3 => ck (inb r3 (ln 25)) (lt (upA u3 25 (upd (u3.2.2.1 25) r3.toNatClampNeg v2)) (fun w4 => some (w4, r3)))))))
section
variable {Q : MS → Int32 → Prop} {u0 u v w x V X : MS} {N σ1 e j k n0 R0 : Nat} {t f B hf : Int} {r v1 v2 v3 v4 : Int32} {S : SG_M_behind}
theorem fnE_ok (h65 : F u 65 = σ1) (hσ : 1 ≤ σ1 ∧ σ1 ≤ 26) (hj : j < 16000) (hn : 0 ≤ F u 32 ∧ F u 32 < 16000) (ht : 0 ≤ t ∧ t < 4002) (a : ∀ v, NDV (wa (wi u 65 ((σ1 : Int) - 1)) 25 j (F u 32)) v 14 t → Q (wa v 25 (F u 32).toNat f) (I (F u 32))) : OK Q (fnE N (I t) (I f) (I j) u) := by
  unfold fnE
  have e : u.1 65 - 1 = I ((σ1 : Int) - 1) := by rw [I_F' h65, lit1q, I_sub]
  rw [e, wi_e]
  refine ok_lt.mpr (k_in (k := 25) (n := 16000) rfl (by decide) (by omega) (ok_lt.mpr ?_))
  have e32 : F (wi u 65 ((σ1 : Int) - 1)) 32 = F u 32 := wi_ne (by decide)
  rw [I_tn (x := (j : Int)) (by omega) (by omega), I_F' e32, wa_e, show ((j : Nat) : Int).toNat = j by omega]
  have e32' : F (wa (wi u 65 ((σ1 : Int) - 1)) 25 j (F u 32)) 32 = F u 32 := by rw [F_wa]; exact e32
  refine k_node (k := 14) (t := t) rfl (by decide) rfl ht (by omega) (fun v hv => ?_)
  rw [e32']
  refine k_in (k := 25) (n := 16000) rfl (by decide) (by omega) (ok_lt.mpr ?_)
  rw [I_tn (x := F u 32) (by omega) (by omega), wa_e]
  exact ok_some.mpr (a v hv)
theorem held_loop (h65 : F u 65 = σ1) (hσ : 1 ≤ σ1 ∧ σ1 ≤ 26) (h63 : A u 63 σ1 = hf) (hf0 : 0 ≤ hf ∧ hf ≤ 60) (h58 : 0 ≤ F u 58 ∧ F u 58 + 60 ≤ 24000) (a : ∀ v, HLP σ1 u v hf.toNat → OK Q (fnE N v1 v2 v3 v)) : ∀ (m i : Nat) (v : MS), HLP σ1 u v i → (i : Int) ≤ hf → hf - i < m → OK Q (gg_M_fun N S m v v1 v2 v3 (I i)) := by
  intro m
  induction m with
  | zero => intro i v _ h1 h2; omega
  | succ m ih =>
    intro i v hv h1 h2
    obtain ⟨b1, b2, b3, b4⟩ := hv
    have v65 : F v 65 = σ1 := (b1.F (by decide)).trans h65
    have v63 : A v 63 σ1 = hf := (b1.A (by decide)).trans h63
    show OK _ (fb_M_fun_257 N S (gg_M_fun N S m) v v1 v2 v3 (I i))
    unfold fb_M_fun_257
    refine k_at (k := 63) (n := 27) rfl (by decide) (by omega) ?_
    have y63 : v.2.2.1 63 (v.1 65).toNatClampNeg = I hf := by
      rw [tn_F, v65, show ((σ1 : Nat) : Int).toNat = σ1 by omega]; exact I_A' v63
    rw [y63]
    refine k_le (x := hf) (y := (i : Int)) ⟨by omega, by omega⟩ ⟨by omega, by omega⟩ (fun y => ?_) (fun y => ?_)
    · obtain rfl : i = hf.toNat := by omega
      exact a v ⟨b1, b2, b3, b4⟩
    · have e62 : (1400 : Int32) * v.1 65 + I i = I (1400 * (σ1 : Int) + i) := by
        rw [I_F' v65, show (1400 : Int32) = I 1400 from rfl, I_mul, I_add]
      rw [e62]
      refine k_in (k := 62) (n := 37800) rfl (by decide) (by omega) (k_at (k := 57) (n := 24000) rfl (by decide) (by omega) (ok_lt.mpr (ok_lt.mpr ?_)))
      have e1 : (I (1400 * (σ1 : Int) + i)).toNatClampNeg = 1400 * σ1 + i := by rw [I_tn (by omega) (by omega)]; omega
      have e2 : v.2.2.1 62 (1400 * σ1 + i) = I (A v 62 (1400 * σ1 + i)) := I_A
      rw [e1, e2, tn_F, wa_e]
      have f58 : (wa v 57 (F v 58).toNat (A v 62 (1400 * σ1 + i))).1 58 + 1 = I (F v 58 + 1) := by
        rw [I_F (k := 58), F_wa, lit1q, I_add]
      rw [f58, wi_e, show (I ((i : Nat) : Int) + 1 : Int32) = I ((i + 1 : Nat) : Int) from by rw [lit1q, I_add]; rfl]
      refine ih (i + 1) _ ⟨?_, ?_, fun t ht => ?_, fun t ht => ?_⟩ (by omega) (by omega)
      · exact FR.wi (FR.wa b1 (by decide)) (by decide)
      · rw [wi_eq ⟨by omega, by omega⟩]; omega
      · show A (wa v 57 (F v 58).toNat (A v 62 (1400 * σ1 + i))) 57 ((F u 58).toNat + t) = _
        by_cases z : t = i
        · rw [z, show (F u 58).toNat + i = (F v 58).toNat by omega, wa_eq (ARG1 v 62 _)]
          exact b1.A (by decide)
        · rw [wa_ne (by omega)]; exact b3 t (by omega)
      · show A (wa v 57 (F v 58).toNat (A v 62 (1400 * σ1 + i))) 57 t = _
        rw [wa_ne (by omega)]; exact b4 t ht
theorem f221_ok {c : Int} (hN : 100 ≤ N) (h65 : F u 65 = σ1) (hσ : 1 ≤ σ1 ∧ σ1 ≤ 26) (h63 : A u 63 σ1 = hf) (hf0 : 0 ≤ hf ∧ hf ≤ 60) (h58 : 0 ≤ F u 58 ∧ F u 58 + 60 ≤ 24000) (hff : 0 ≤ f ∧ f < 1400) (hj : j < 16000) (hn : 0 ≤ F u 32 ∧ F u 32 < 16000) (ht : 0 ≤ t ∧ t < 4002) (a : ∀ y3 v, HLP σ1 (wa (wa (wa u 53 f.toNat c) 54 f.toNat hf) 55 f.toNat (F u 58)) y3 hf.toNat → NDV (wa (wi y3 65 ((σ1 : Int) - 1)) 25 j (F u 32)) v 14 t → Q (wa v 25 (F u 32).toNat f) (I (F u 32))) : OK Q (fb_M_fun_221 N S (gg_M_fun N S N) u (I t) (I f) (I j) (I c)) := by
  unfold fb_M_fun_221
  refine k_in (k := 53) (n := 1400) rfl (by decide) hff (ok_lt.mpr ?_)
  rw [I_tn (x := f) (by omega) (by omega), wa_e]
  have e65 : F (wa u 53 f.toNat c) 65 = σ1 := by rw [F_wa]; exact h65
  refine k_at (k := 63) (n := 27) rfl (by decide) (by omega) (k_in (k := 54) (n := 1400) rfl (by decide) hff (ok_lt.mpr ?_))
  have y63 : (wa u 53 f.toNat c).2.2.1 63 ((wa u 53 f.toNat c).1 65).toNatClampNeg = I hf := by
    rw [tn_F, e65, show ((σ1 : Nat) : Int).toNat = σ1 by omega]
    exact I_A' (by rw [wa_rne (by decide)]; exact h63)
  rw [y63, wa_e]
  refine k_in (k := 55) (n := 1400) rfl (by decide) hff (ok_lt.mpr ?_)
  have e58 : F (wa (wa u 53 f.toNat c) 54 f.toNat hf) 58 = F u 58 := by rw [F_wa, F_wa]
  rw [I_F' e58, wa_e]
  have E65 : F (wa (wa (wa u 53 f.toNat c) 54 f.toNat hf) 55 f.toNat (F u 58)) 65 = σ1 := by rw [F_wa, F_wa, F_wa]; exact h65
  have E63 : A (wa (wa (wa u 53 f.toNat c) 54 f.toNat hf) 55 f.toNat (F u 58)) 63 σ1 = hf := by rw [wa_rne (by decide), wa_rne (by decide), wa_rne (by decide)]; exact h63
  have E58 : F (wa (wa (wa u 53 f.toNat c) 54 f.toNat hf) 55 f.toNat (F u 58)) 58 = F u 58 := by rw [F_wa, F_wa, F_wa]
  have E32 : F (wa (wa (wa u 53 f.toNat c) 54 f.toNat hf) 55 f.toNat (F u 58)) 32 = F u 32 := by rw [F_wa, F_wa, F_wa]
  refine held_loop (hf := hf) E65 hσ E63 hf0 (by omega) (fun v hv => ?_) N 0 _ ⟨FR.rf, by omega, fun t h => by omega, fun t _ => rfl⟩ (by omega) (by omega)
  have v65 : F v 65 = σ1 := (hv.1.F (by decide)).trans E65
  have v32 : F v 32 = F u 32 := (hv.1.F (by decide)).trans E32
  refine fnE_ok v65 hσ hj (by omega) ht (fun w hw => ?_)
  rw [v32] at hw ⊢
  exact a v w hv hw
end
