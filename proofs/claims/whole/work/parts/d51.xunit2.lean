/-! expressions: units, both: all -/
set_option maxRecDepth 100000
section
variable {α β : Type} {m0 w0 m w m2 w2 m3 w3 v u w1 : MS} {K nm Nk W W2 : Nat → Nat} {N T D d o a a0 b b0 c cm cm0 cm2 cm3 q q0 r s lo lo0 mid hi i j f f2 n k kk p σ tk x xa xb M m1 lv : Nat} {Q Q0 Q2 Q3 Q4 : Nat → Nat} {sc sc0 sc2 sc3 t : SCT} {e : List Nat × List Nat × Nat} {g lst l2 : Bool} {L L1 L2 : List Nat} {idc fof cvr : Int → Int → Int} {z : Unit} {rt v1 v2 v3 v5 : Int32} {fc : MS → Unit → Option (MS × Unit)} {RR : MS → Unit → MS → Int32 → Prop} {A' : Option (MS × Unit)} {B' : Option (MS × Int32)}
theorem pp_rx {W0 : MS → Int32 → Option (MS × Int32)} {r : Int32} (h : PP RR A' (W0 w r)) : PP (fun m z w r => PK (fun v q => RR m z v q) (W0 w r)) A' (some (w, r)) := by
  intro m9 z9 w9 r9 e1 e2 v q e3
  injection e2 with e2
  injection e2 with e4 e5
  subst e4
  subst e5
  exact h m9 z9 v q e1 e3
/-- what is PRIMARY begins with no sign -/
theorem xp_beg0 : ∀ {f o n lo hi a b q r : Nat} {u : MS}, XPcK u f o 0 n lo hi a b q r → A u 6 lo ≠ 14 ∧ A u 6 lo ≠ 34 ∧ A u 6 lo ≠ 9
  | 0, _, _, _, _, _, _, _, _, _, h => h.elim
  | f + 1, o, n, lo, hi, a, b, q, r, u, h => by
    obtain ⟨-, -, -, h4⟩ := h
    rcases h4 with ⟨h4, -⟩ | ⟨h4, m, c, h5, h6, h7, hk, -⟩ | ⟨h4, h5, hk⟩ | ⟨h4, h5, hk⟩ | ⟨h4, k, m, c, h5, h6, h7, hk, -⟩ | ⟨h4, x, mid, c, s, k, m, c2, h5, h6, h7, h8, h9, hk, -⟩ | ⟨h4, k, m, c, h5, h6, h7, hk, -⟩ | ⟨h4, k, m, m1, c1, s1, h5, h6, h7⟩ | ⟨h4, k, m, ph, c, h5, h6, h7, h8, h9, h10, h11, h12, hk, -⟩ | h4 | ⟨h4, h5, k, m, a2, c, h6, h7, h8, h9, h10, h11, hk, -⟩ | ⟨h4, h5, -⟩ | ⟨h4, h5, -⟩ | ⟨h4, h5, -⟩ | ⟨h4, h5, -⟩ | ⟨h4, h5, -⟩ | ⟨h4, h5, -⟩
    · have := h4.2.1; omega
    · omega
    · obtain ⟨-, -, -, -, -, ⟨-, h, -⟩, -⟩ := h5; omega
    · obtain ⟨-, -, -, -, -, -, -, ⟨-, h, -⟩, -⟩ := h5; omega
    · omega
    · omega
    · omega
    · rcases h7 with ⟨-, -, -, -, -, -, hk, -⟩ | ⟨x, m2, c2, s2, kb, mb, c3, -, -, -, -, -, -, hk, -⟩
      · omega
      · omega
    · omega
    · have := h4.2.1.2.1; omega
    · omega
    · omega
    · omega
    · omega
    · omega
    · omega
    · omega
/-- a unit that is PRIMARY -/
theorem xp_0 {u : MS} {q r hi lo n f : Nat} (h : XPcK u f o 1 n lo hi a b q r) (n15 : A u 16 n ≠ 15) (n17 : A u 16 n ≠ 17) (n18 : A u 16 n ≠ 18) : XPcK u f o 0 n lo hi a b q r := by
  cases f with
  | zero => exact h.elim
  | succ f =>
    obtain ⟨h1, h2, h3, h4⟩ := h
    refine ⟨h1, h2, h3, ?_⟩
    rcases h4 with h | h | h | h | h | h | h | h | h | h | h | h | h | h | h | h | h
    · exact Or.inl h
    · exact Or.inr (Or.inl h)
    · exact Or.inr (Or.inr (Or.inl h))
    · exact Or.inr (Or.inr (Or.inr (Or.inl h)))
    · exact Or.inr (Or.inr (Or.inr (Or.inr (Or.inl h))))
    · exact Or.inr (Or.inr (Or.inr (Or.inr (Or.inr (Or.inl h)))))
    · exact Or.inr (Or.inr (Or.inr (Or.inr (Or.inr (Or.inr (Or.inl h))))))
    · exact Or.inr (Or.inr (Or.inr (Or.inr (Or.inr (Or.inr (Or.inr (Or.inl h)))))))
    · exact Or.inr (Or.inr (Or.inr (Or.inr (Or.inr (Or.inr (Or.inr (Or.inr (Or.inl h))))))))
    · exact Or.inr (Or.inr (Or.inr (Or.inr (Or.inr (Or.inr (Or.inr (Or.inr (Or.inr (Or.inl h)))))))))
    · exact Or.inr (Or.inr (Or.inr (Or.inr (Or.inr (Or.inr (Or.inr (Or.inr (Or.inr (Or.inr (Or.inl h))))))))))
    · exact absurd h.1 n15
    · rcases h.1 with z | z
      · exact absurd z n17
      · exact absurd z n18
    · exact absurd h.2.1 (by decide)
    · exact absurd h.2.1 (by decide)
    · exact absurd h.2.1 (by decide)
    · exact absurd h.2.1 (by decide)
/-- worked() at a PRIMARY -/
theorem w2_prim {S : SG_M_behind} {v1 : Int32} (c : CTZ m0 w0 K T nm Nk) (hR : XRS w0 T w lo Q sc) (k14 : K lo ≠ 14) (k34 : K lo ≠ 34) (h : ∀ M, PP RR A' (kb_M_worked_109 N S (kg_M_worked N S M) w v1)) : PP RR A' ((kg_M_worked N S M).2 w v1) := by
  cases M with
  | zero => exact pp_nr
  | succ M =>
    have hw := XRS_wp c hR
    show PP RR A' (kb_M_worked_20 N S (kg_M_worked N S M) w v1)
    unfold kb_M_worked_20
    rw [decide_eq_true hR.1.2.2.1, br_t, isS_e (k := 34) (s := 19) hw (by decide) rfl, if_neg k34, bnd_s, show decide ((0 : Int32) = 0) = true from rfl, br_t, isV_e (k := 14) (s := 9) hw (by decide) rfl, if_neg k14, bnd_s, show decide ((0 : Int32) = 0) = true from rfl, br_t]
    exact h M
/-- worked() at a sign ahead of a unit -/
theorem w2_sign {S : SG_M_behind} {v1 : Int32} (c : CTZ m0 w0 K T nm Nk) (hR : XRS w0 T w lo Q sc) (hp : Q 83 = p) (hk : K lo = 14 ∨ K lo = 34) (h : ∀ M u, p < 3000 → XRS w0 T u (lo + 1) (qst Q 83 (p + 1)) sc → QRR Q w u → u.2.2.1 79 p = 7 → u.2.2.1 80 p = I (lo : Nat) → PP RR A' ((kg_M_worked N S M).2 u v1)) : PP RR A' ((kg_M_worked N S M).2 w v1) := by
  have t4 := c.2.1.1.1
  have hl : lo < T := c.2.1.1.lt hR.1.2.1.2 (by omega) (by omega)
  have h83 : w.1 83 = I (p : Nat) ∧ p ≤ 24000 := by have := hR.2 83 (by decide); rw [hp] at this; exact this
  cases M with
  | zero => exact pp_nr
  | succ M =>
    have hw := XRS_wp c hR
    have e45 : PP RR A' (kb_M_worked_45 N S (kg_M_worked N S M) w v1) := by
      unfold kb_M_worked_45 kb_M_worked_102
      rw [h83.1, i_nt2 (p := p) (by omega)]
      refine r_ck (fun zp => r_lt ?_)
      have hp3 : p < 3000 := by
        have := (I_inb (n := ln 79) (x := ((p : Nat) : Int)) (by omega) (by omega)).mp zp
        have l79 : ln 79 = 3000 := rfl
        omega
      have e1 : ∀ gg, (upA w 79 gg).1 83 = I (p : Nat) := fun _ => h83.1
      have e2 : ∀ gg, (upA w 79 gg).1 69 = I (lo : Nat) := fun _ => hR.1.2.1.1
      rw [e1, e2, i_nt2 (p := p) (by omega), nsh (by omega)]
      refine r_ck (fun _ => r_lt (r_lt (r_lt ?_)))
      have e3 : (upA (upA w 79 (upd (w.2.2.1 79) p (vp_nar .byte 7))) 80 (upd ((upA w 79 (upd (w.2.2.1 79) p (vp_nar .byte 7))).2.2.1 80) p (I (lo : Nat)))).1 83 + 1 = I ((p + 1 : Nat) : Int) := by
        show w.1 83 + 1 = _
        rw [h83.1, i_suc]
      rw [e3]
      have hQ : QRR Q w (upI (upA (upA w 79 (upd (w.2.2.1 79) p (vp_nar .byte 7))) 80 (upd ((upA w 79 (upd (w.2.2.1 79) p (vp_nar .byte 7))).2.2.1 80) p (I (lo : Nat)))) 83 (I ((p + 1 : Nat) : Int))) := QRR_I (QRR_A (QRR_A QRR_rf (by decide) (by show Q 83 ≤ p; omega)) (by decide) (by show Q 83 ≤ p; omega))
      have r79 : (upI (upA (upA w 79 (upd (w.2.2.1 79) p (vp_nar .byte 7))) 80 (upd ((upA w 79 (upd (w.2.2.1 79) p (vp_nar .byte 7))).2.2.1 80) p (I (lo : Nat)))) 83 (I ((p + 1 : Nat) : Int))).2.2.1 79 p = 7 := by
        show (upA (upA w 79 _) 80 _).2.2.1 79 p = 7
        rw [upA_no (by decide), upA_at, upd_at]; rfl
      have r80 : (upI (upA (upA w 79 (upd (w.2.2.1 79) p (vp_nar .byte 7))) 80 (upd ((upA w 79 (upd (w.2.2.1 79) p (vp_nar .byte 7))).2.2.1 80) p (I (lo : Nat)))) 83 (I ((p + 1 : Nat) : Int))).2.2.1 80 p = I (lo : Nat) := by
        show (upA (upA w 79 _) 80 _).2.2.1 80 p = _
        rw [upA_at, upd_at]
      have hX : XRS w0 T (upI (upA (upA w 79 (upd (w.2.2.1 79) p (vp_nar .byte 7))) 80 (upd ((upA w 79 (upd (w.2.2.1 79) p (vp_nar .byte 7))).2.2.1 80) p (I (lo : Nat)))) 83 (I ((p + 1 : Nat) : Int))) lo (qst Q 83 (p + 1)) sc := by
        refine ⟨?_, QMK_st (w := upA (upA w 79 (upd (w.2.2.1 79) p (vp_nar .byte 7))) 80 (upd ((upA w 79 (upd (w.2.2.1 79) p (vp_nar .byte 7))).2.2.1 80) p (I (lo : Nat)))) hR.2 (by omega)⟩
        rw [qst_no (by decide)]
        exact PRS_x hR.1 (fun k hk => upI_ne (by rintro rfl; revert hk; decide)) (fun k hk => by
          show (upA (upA w 79 _) 80 _).2.2.1 k = _
          rw [upA_no (by omega), upA_no (by omega)]) (by rw [upI_ne (by decide)]; exact hR.1.2.1.1)
      generalize upI (upA (upA w 79 (upd (w.2.2.1 79) p (vp_nar .byte 7))) 80 (upd ((upA w 79 (upd (w.2.2.1 79) p (vp_nar .byte 7))).2.2.1 80) p (I (lo : Nat)))) 83 (I ((p + 1 : Nat) : Int)) = V at hQ r79 r80 hX
      have e4 : V.1 69 + 1 = I ((lo + 1 : Nat) : Int) := by rw [hX.1.2.1.1, i_suc]
      rw [e4]
      have hA := XRS_ad hX hl
      rw [show upI V 69 (I ((lo + 1 : Nat) : Int)) = adv V lo from rfl, bU_m (XRS_wp c hA), bnd_s]
      cases bUK (K (lo + 1)) with
      | false =>
        rw [show decide (b2c false = 0) = true from rfl, br_t]
        exact pp_nr
      | true =>
        rw [show decide (b2c true = 0) = false from rfl, br_f]
        refine r_opens ?_
        exact h M _ hp3 (XRS_I (k := 70) hA (by decide) (by decide)) hQ r79 r80
    show PP RR A' (kb_M_worked_20 N S (kg_M_worked N S M) w v1)
    unfold kb_M_worked_20
    rw [decide_eq_true hR.1.2.2.1, br_t, isS_e (k := 34) (s := 19) hw (by decide) rfl, bnd_s]
    rcases hk with hk | hk
    · rw [if_neg (by omega), show decide ((0 : Int32) = 0) = true from rfl, br_t, isV_e (k := 14) (s := 9) hw (by decide) rfl, if_pos hk, bnd_s, show decide ((1 : Int32) = 0) = false from rfl, br_f]
      exact e45
    · rw [if_pos hk, show decide ((1 : Int32) = 0) = false from rfl, br_f]
      exact e45
end
