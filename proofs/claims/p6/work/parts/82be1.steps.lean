set_option maxRecDepth 100000
def KZc {α : Type} (K : Nat → Prop) (o : Option (MS × (α ⊕ Nat))) : Prop := ∀ w r, o = some (w, r) → ∀ k, r = .inr k → K k
section
variable {α β : Type} {K : Nat → Prop} {N z : Nat} {u : MS} {c : Nat → Nat} {m : MS} {x : CS}
theorem KZ_none : KZc K (none : Option (MS × (α ⊕ Nat))) := fun _ _ e => by cases e
theorem KZ_l {r : α} : KZc K (some (u, (.inl r : α ⊕ Nat))) := fun _ _ e k h => by
  injection e with e
  injection e with _ e2
  rw [← e2] at h
  cases h
theorem KZ_r {j : Nat} (hj : K j) : KZc K (some (u, (.inr j : α ⊕ Nat))) := fun _ _ e k h => by
  injection e with e
  injection e with _ e2
  rw [← e2] at h
  injection h with h
  exact h ▸ hj
theorem KZ_br {b : Bool} {p q : Option (MS × (α ⊕ Nat))} (h1 : KZc K p) (h2 : KZc K q) : KZc K (br b p q) := by cases b <;> assumption
theorem KZ_ck {b : Bool} {p : Option (MS × (α ⊕ Nat))} (h1 : KZc K p) : KZc K (ck b p) := by
  cases b
  · exact KZ_none
  · exact h1
theorem KZ_bo {o : Option β} {f : β → Option (MS × (α ⊕ Nat))} (h : ∀ j, KZc K (f j)) : KZc K (bo o f) := by
  cases o with
  | none => exact KZ_none
  | some j => exact h j
theorem KZ_bnd {o : Option (MS × β)} {f : MS → β → Option (MS × (α ⊕ Nat))} (h2 : ∀ w r, KZc K (f w r)) : KZc K (bnd o f) := by
  cases o with
  | none => exact KZ_none
  | some x => exact h2 x.1 x.2
theorem KZ_lt {y : β} {f : β → Option (MS × (α ⊕ Nat))} (h2 : ∀ y, KZc K (f y)) : KZc K (lt y f) := h2 y
theorem go_kz {a b : Int32} : KZc (fun k => k ≤ 2) (hm_H_go N u a b) := by
  unfold hm_H_go hb_H_go_0 hb_H_go_11 hb_H_go_71 hb_H_go_81
  exact KZ_br (KZ_r (by omega)) (KZ_br (KZ_bnd (fun w r => KZ_br (KZ_r (by omega)) (KZ_bo (fun j => KZ_br (KZ_r (by omega)) (KZ_br (KZ_bnd (fun w r => KZ_br (KZ_r (by omega)) (KZ_bnd (fun w r => KZ_l)))) (KZ_bnd (fun w r => KZ_l))))))) (KZ_r (by omega)))
theorem clock_kz {a : Int32} : KZc (fun k => k = 0 ∨ k = 2) (hm_H_clock N u a) := by
  unfold hm_H_clock hb_H_clock_0 hb_H_clock_24
  exact KZ_br (KZ_r (by omega)) (KZ_br (KZ_r (by omega)) (KZ_br (KZ_br (KZ_r (by omega)) (KZ_lt (fun y => KZ_l))) (KZ_r (by omega))))
theorem send_kz {a b d : Int32} : KZc (fun k => k = 1 ∨ k = 2) (hm_H_send N u a b d) := by
  have e112 : ∀ {w : MS}, KZc (fun k => k = 1 ∨ k = 2) (hb_H_send_112 N () w) := by
    intro w
    unfold hb_H_send_112
    exact KZ_bnd (fun w r => KZ_l)
  have e91 : ∀ {w : MS} {a b : Int32} {q : Option Nat}, KZc (fun k => k = 1 ∨ k = 2) (hb_H_send_91 N () w a q b) := by
    intro w a b q
    unfold hb_H_send_91
    exact KZ_bnd (fun w r => KZ_bo (fun j => KZ_bnd (fun w r => e112)))
  have e45 : ∀ {w : MS} {a b : Int32} {q : Option Nat}, KZc (fun k => k = 1 ∨ k = 2) (hb_H_send_45 N () w a b q) := by
    intro w a b q
    unfold hb_H_send_45 hb_H_send_54
    exact KZ_br (KZ_r (by omega)) (KZ_br (KZ_br (KZ_bo (fun j => KZ_bnd (fun w r => e112))) (KZ_br e91 e91)) (KZ_r (by omega)))
  unfold hm_H_send hb_H_send_0 hb_H_send_35
  exact KZ_bnd (fun w r => KZ_br (KZ_r (by omega)) (KZ_br (KZ_br (KZ_r (by omega)) (KZ_br e45 (KZ_r (by omega)))) e45))
theorem begin_kz {a : Int32} : KZc (fun k => k ≤ 2) (hm_H_begin N u a) := by
  unfold hm_H_begin hb_H_begin_0 hb_H_begin_102
  exact KZ_br (KZ_r (by omega)) (KZ_bnd (fun w r => KZ_br (KZ_r (by omega)) (KZ_ck (KZ_br (KZ_bnd (fun w r => KZ_lt (fun y => KZ_bnd (fun w r => KZ_br KZ_l (KZ_bo (fun j => KZ_ck (KZ_bnd (fun w r => KZ_l)))))))) (KZ_r (by omega))))))
theorem step_c {a : Option (CS × α)} {y : Option (MS × α)} (hrf : RF z none VE c x a y) (hok : OK (fun w _ => INVc w) y) : ∃ c2 m2 x2 r, a = some (x2, r) ∧ y = some (m2, r) ∧ RP none c2 m2 x2 ∧ INVc m2 ∧ EX z c x c2 x2 := by
  obtain ⟨m2, r, e, hi⟩ := hok
  obtain ⟨c2, x2, r2, e2, rp, ex, ve⟩ := hrf m2 r e
  have : r2 = r := ve
  subst this
  exact ⟨c2, m2, x2, r2, e2, e, rp, hi, ex⟩
theorem pow_le {a b : Nat} (h : a ≤ b) : 2 ^ a ≤ 2 ^ b := Nat.pow_le_pow_right (by omega) h
theorem room_c (h : RP none c m x) (hi : INVc m) : x.1.2 ≤ 4106366 ∧ 64 * x.1.1 ≤ x.1.2 := by
  obtain ⟨-, -, -, hq, -, -, ⟨h1, h2, -⟩⟩ := h
  have al := hi.1.2.2.2.2.2.1
  have one : ∀ q, q < 24 → slQ c m q ≤ 165022 := fun q hq24 => by
    unfold slQ
    by_cases e : c (pq q 0) = 0
    · rw [if_pos e]; omega
    · rw [if_neg e]
      have e1 := hq.2 q hq24
      rw [if_neg e] at e1
      rcases al q hq24 with z | ⟨-, ⟨a, ha, a1⟩, ⟨b, hb, b1, b2⟩, ⟨d, hd, d1, -⟩⟩
      · rw [e1] at z
        exfalso
        have hr : ∀ q, q < 24 → rf (Int32.ofNat q) ≠ none := by decide
        exact hr q hq24 z
      · have pa := pow_le ha
        have pb := pow_le hb
        have pd := pow_le hd
        have tn : ∀ k, lnQ m q k = (F m (pq q k)).toNat := fun k => by
          unfold lnQ
          rw [I_F (k := pq q k)]
          have hr := F_r m (pq q k)
          by_cases z : 0 ≤ F m (pq q k)
          · exact tnI (n := (F m (pq q k)).toNat) (by omega) (by omega)
          · have : (F m (pq q k)).toNat = 0 := by omega
            rw [this]
            show (I (F m (pq q k))).toInt.toNat = 0
            rw [I_ti hr.1 hr.2]
            exact this
        rw [tn, tn, tn, tn, a1, b1, b2, d1]
        simp only [Int.toNat_natCast]
        have p10 : (2 : Nat) ^ 10 = 1024 := by decide
        have p6 : (2 : Nat) ^ 6 = 64 := by decide
        have p8 : (2 : Nat) ^ 8 = 256 := by decide
        omega
  have all : ∀ n, n ≤ 24 → slT c m n ≤ 165022 * n := by
    intro n
    induction n with
    | zero => intro _; exact Nat.le_refl _
    | succ n ih =>
      intro hn
      have a := ih (by omega)
      have b := one n (by omega)
      show slT c m n + slQ c m n ≤ _
      omega
  have a24 := all 24 (Nat.le_refl _)
  exact ⟨by omega, h2⟩
end
