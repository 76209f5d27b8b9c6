set_option maxRecDepth 100000
abbrev CLT := Nat × Nat × Nat × Nat × Bool × Bool × (Int32 × Int32 × Int32 → Prop)
def CLOb (N : Nat) (K nm : Nat → Nat) (m2 : MS) (lo n2 : Nat) (a : CLT) : Prop := ∃ (mi : MS) (li ni q0 q1 q4 : Nat) (sc1 : SCT) (e5 : List Nat × List Nat × Nat) (X1 X2 : Nat) (W : Nat → Nat) (R1 R2 Z1 Z2 : Bool) (C1 C2 : Int32 × Int32 × Int32 → Prop) (lp : List Nat), (lo ≤ li ∧ ni ≤ n2 ∧ li < a.1 ∧ a.1 ≤ ni ∧ ni ≤ 8015) ∧ KPX li ni a.1 mi m2 ∧ (q0 ≤ q1 ∧ q1 ≤ q4 ∧ q4 ≤ 4000) ∧ TRB N K nm true mi li ni a.1 q0 q1 [([], [], 0)] sc1 X1 W R1 Z1 (BCo N C1) ∧ BDB N K nm mi li ni a.1 q1 q4 sc1 [e5] X2 W R2 Z2 (BCo N C2) ∧ (tot sc1 ≤ q1 - q0 ∧ sc1.length = 1 ∧ X1 ≤ 1400 ∧ X2 ≤ 1400) ∧ (m2.2.2.1 18 a.1 = I ((lp.headD 0 : Nat) : Int) ∧ NXT m2 lp ∧ (∀ x, x ∈ lp → li < x ∧ x ≤ ni ∧ x ≠ a.1) ∧ lp.length = a.2.2.1 ∧ a.2.2.1 ≤ 6) ∧ (m2.2.2.1 17 a.1 = I (a.2.1 : Nat) ∧ a.2.1 ≤ 4000) ∧ (a.2.2.2.1 = max X1 X2 ∧ a.2.2.2.2.1 = (R1 || R2) ∧ a.2.2.2.2.2.1 = (Z1 || Z2)) ∧ ∀ x, a.2.2.2.2.2.2 x ↔ C1 x ∨ C2 x
def FCZ (N : Nat) (m0 w0 : MS) (K : Nat → Nat) (T : Nat) (nm : Nat → Nat) (p n : Nat) (m w m2 : MS) (z : Int32 ⊕ Nat) (w2 : MS) (rr : Int32) : Prop := match z with
  | .inr _ => FLW w2
  | .inl ρ => ∃ (p4 n5 : Nat) (a : CLT), ρ = I (a.1 : Nat) ∧ a.2.1 = p ∧ (RLP m0 w0 T p4 m2 w2 ∧ p + 5 ≤ p4 ∧ m2.1 306 = I (n5 : Nat) ∧ n5 ≤ 2 * p4 ∧ n ≤ n5) ∧ KPO n m m2 ∧ PCG m m2 ∧ CLOb N K nm m2 n n5 a ∧ m2.2.2.1 21 a.1 = 0 ∧ (w2.1 66 = 0 ↔ w.1 66 = 0 ∧ a.2.2.2.1 ≤ 40 ∧ a.2.2.2.2.2.1 = false) ∧ (w2.1 72 = 0 ↔ w.1 72 = 0 ∧ a.2.2.2.2.1 = false) ∧ WFE w w2 ∧ (∃ b b' : Nat, (w.1 32 = I (b : Nat) ∧ w2.1 32 = I (b' : Nat) ∧ b ≤ b' ∧ b' ≤ 100000) ∧ (∀ x, CSY w2 b b' x ↔ a.2.2.2.2.2.2 x) ∧ NKP b w w2) ∧ CJb w w2 rr a.2.2.1 ∧ Kdc w w2 ∧ Kbc w w2 ∧ rr ≠ -1
section
variable {α : Type} {R : MS → Int32 ⊕ Nat → MS → Int32 → Prop} {A : Option (MS × α)} {m0 w0 m w v u m2 m3 w2 w' mB wB : MS} {K nm Nk W : Nat → Nat} {T p n N q q1 X Y X1 X2 n0 n1 n2 n3 lo lo2 π a b k d o M D tok : Nat} {sc sc1 sc2 : SCT} {v1 v2 r : Int32}
theorem RNs_0 (h65 : w.1 65 = 0) (h60 : w.2.2.1 60 0 = 0) (h63 : w.2.2.1 63 0 = 0) (h64 : w.2.2.1 64 0 = 0) : RNs w [([], [], 0)] := ⟨h65, ⟨Nat.le_refl _, by decide⟩, ⟨⟨h60, fun k x e => (by cases e), h63, fun k x e => (by cases e), h64⟩, trivial⟩, ⟨List.nodup_nil, fun x h => (by cases h), by decide, Nat.le_refl _, by decide, fun x h => (by cases h), List.nodup_nil⟩, trivial⟩
theorem lg_0 {g : Int32} {Z : Bool} : lgZ [([], [], 0)] X Z g = 0 ↔ g = 0 ∧ X ≤ 40 ∧ Z = false := by
  unfold lgZ
  cases Z with
  | true => simp
  | false =>
    show (if 0 < X ∧ 40 < max 0 X then (1 : Int32) else g) = 0 ↔ _
    by_cases z : 40 < X
    · rw [if_pos ⟨by omega, by omega⟩]
      exact ⟨fun h => absurd h (by decide), fun h => absurd h.2.1 (by omega)⟩
    · rw [if_neg (by omega)]
      exact ⟨fun h => ⟨h, by omega, rfl⟩, fun h => h.1⟩
theorem fcl_pp (c : CTZ m0 w0 K T nm Nk) (cA : CTA m0 w0 K T) (c45 : ∀ p, p ≤ T → K p ≠ 45) (h : RLP m0 w0 T p m w) (k2 : K p = 2) (hn : m.1 306 = I (n : Nat)) (hn2 : n ≤ 2 * p) (nd : ND w) (h70 : w.1 70 = 0) (h73 : w.1 73 = 0) (hi : ∀ k, k ≠ 69 → k ≠ 65 → w'.1 k = w.1 k) (hr : ∀ k, k ≠ 60 → k ≠ 63 → k ≠ 64 → w'.2.2.1 k = w.2.2.1 k) (h69 : w'.1 69 = I ((p + 1 : Nat) : Int)) (h65 : w'.1 65 = 0) (h60 : w'.2.2.1 60 0 = 0) (h63 : w'.2.2.1 63 0 = 0) (h64 : w'.2.2.1 64 0 = 0) : PP (FCZ N m0 w0 K T nm p n m w') (hm_Pa_clause N m) (fr_M_clause N w' v1) := by
  have T4 := c.1.1.1
  have hc := RLP_c c h
  have pl : p < T := TWK_lt c h.2.2.2.2.1 (by omega) (by omega)
  show PP _ (hb_Pa_clause_0 N () m) ((rc_M_behind N 300).2.2.2.2.2.2.2.2.2.2.2.2.2.2.2.2 w' v1)
  unfold hb_Pa_clause_0
  rw [need_e (s := 2) hc k2 (by decide) rfl, bTm_l]
  have h1 := RLP_ad h pl
  have hc1 := RLP_c c h1
  have kt : Ktc w0 w' := Kt_tr h.2.1 ⟨fun k hk => hi k (by rintro rfl; revert hk; decide) (by rintro rfl; revert hk; decide), fun k hk => hr k (by rintro rfl; revert hk; decide) (by rintro rfl; revert hk; decide) (by rintro rfl; revert hk; decide)⟩
  have w67 : w'.1 67 = 0 := by rw [hi 67 (by decide) (by decide)]; exact h.2.2.2.2.2.2
  have hw' : WP w' K T (p + 1) := ⟨⟨c.2.1.1, fun j hj => by rw [kt.2 6 (by decide)]; exact c.2.1.2.1 j hj, fun j hj => by rw [kt.2 7 (by decide)]; exact c.2.1.2.2 j hj⟩, h69, pl⟩
  by_cases k20 : K (p + 1) = 20
  · have pl1 : p + 1 < T := TWK_lt c pl (by omega) (by omega)
    rw [need_e (s := 20) hc1 k20 (by decide) rfl, bTm_l]
    have e1 : (fun u3 r3 => bTm (hr_Pa_part N u3 (I (p : Nat)) r3) (fun u4 r4 => some (u4, (.inl r4 : Int32 ⊕ Nat)))) = fun u3 r3 => (hrc_Pa_matched N 300).2.2.2.2.2.1 u3 (I (p : Nat)) r3 := by
      funext u3 r3
      exact bTm_id
    rw [e1]
    have rl2 : RLP m0 w0 T (p + 1 + 1) (advc (advc m p) (p + 1)) (adv w' (p + 1)) := by
      have := RLP_ad h1 pl1
      refine ⟨this.1, Kt_I kt (by decide), this.2.2.1, by unfold adv; rw [upI_at], pl1, ?_, by unfold adv; rw [upI_ne (by decide)]; exact w67⟩
      rw [this.2.2.2.2.2.1]
      unfold adv
      rw [upI_ne (by decide), upI_ne (by decide), upI_ne (by decide), hi 70 (by decide) (by decide)]
    have rn := RNs_0 h65 h60 h63 h64
    have nd' : ND w' := by
      obtain ⟨av, a1, a2⟩ := nd
      exact ⟨av, by rw [hi 32 (by decide) (by decide)]; exact a1, a2⟩
    have g306 : (advc (advc m p) (p + 1)).1 306 = I (n : Nat) := by unfold advc; rw [upI_ne (by decide), upI_ne (by decide)]; exact hn
    refine pp_mo (pp_kr ((ALX_all (N := N) c cA c45 300).2.2.2.2.2.2.2.2.2.2.2.2.2 300 (advc (advc m p) (p + 1)) w' (p + 1) n [([], [], 0)] 0 p v1 rl2 hw' w67 k20 g306 (by omega) rn nd' (by rw [hi 70 (by decide) (by decide)]; exact h70) (by decide) (by rw [hi 73 (by decide) (by decide)]; exact h73) (by omega)) (pk_and (yd_fr_M_clause (u0 := w') (N := N) (v1 := v1) Kd_rf) (yb_fr_M_clause (u0 := w') (N := N) (v1 := v1) Kb_rf))) (fun m2 z w2 rr q => ?_)
    obtain ⟨q, qd, qb⟩ := q
    cases z with
    | inr k => exact q
    | inl ρ =>
      obtain ⟨π, p4, n5, q1, sc1, e5, t5, X1, X2, W, R1, R2, Z1, Z2, CL1, CL2, lp, d1, d2, d3, stn, dT, dB, d21, dl, dn, dj, d17, dne, drr⟩ := q
      obtain ⟨s1, s2, s3, s4, sw⟩ := stn
      have len5 : t5 = [] := by
        have := SCX_len sw.2.1
        cases t5 with
        | nil => rfl
        | cons x y => exact absurd this (by simp)
      subst len5
      have p4T := s1.2.2.2.2.1
      refine ⟨p4, n5, (π, p, lp.length, max X1 X2, (R1 || R2), (Z1 || Z2), fun x => CL1 x ∨ CL2 x), d1, rfl, ⟨s1, by omega, s2.2.1, by omega, by omega⟩, ?_, ?_, ⟨m2, n, n5, p + 1 + 1, q1, p4, sc1, e5, X1, X2, W, R1, R2, Z1, Z2, CL1, CL2, lp, ⟨Nat.le_refl _, Nat.le_refl _, d2.1, d2.2, by omega⟩, ⟨fun j _ _ => ⟨rfl, fun _ => rfl⟩, Kc_rf⟩, ⟨by omega, by omega, by omega⟩, dT, dB, ⟨by have : tot sc1 ≤ 0 + (q1 - (p + 1 + 1)) := dn.1.1; omega, dn.1.2.1, dn.1.2.2, dn.2⟩, ⟨dl.1, dl.2.1, fun x hx => ⟨(dl.2.2.1 x hx).1, (dl.2.2.1 x hx).2, dne x hx⟩, rfl, dl.2.2.2⟩, ⟨d17, by show p ≤ 4000; omega⟩, ⟨rfl, rfl, rfl⟩, fun x => Iff.rfl⟩, d21, ?_, sw.2.2.2.2.2.1, sw.2.2.2.2.2.2.1, sw.2.2.2.2.2.2.2, dj, qd, qb, drr⟩
      · exact s3
      · exact PCG_tr (PCG_I (PCG_I (m := m) PCG_rf (Or.inr (Or.inr rfl))) (Or.inr (Or.inr rfl))) s4
      · exact sw.2.2.2.2.1.trans lg_0
  · refine pp_rf (RFS_T (need_x (s := 20) hc1 k20 (by decide) rfl)) (fun mm => ?_)
    exact cl_x hw' w67 k20 300
end
