/-! expressions: units with signs between, both: what waits -/
set_option maxRecDepth 100000
/-- a sign waits, here -/
def PSd (w0 : MS) (K : Nat → Nat) (T : Nat) (w1 w2 : MS) (Q1 Q2 : Nat → Nat) (sc1 : SCT) (t : Nat) : Prop := XRS w0 T w2 (t + 1) Q2 sc1 ∧ QRR Q1 w1 w2 ∧ w2.2.2.1 79 (Q1 83) = I (rkK (K t) : Nat) ∧ w2.2.2.1 80 (Q1 83) = I (t : Nat) ∧ Q1 83 < 3000
/-- a hinge waits, here -/
def HNG (K : Nat → Nat) (w2 : MS) (Q1 : Nat → Nat) (sc1 : SCT) (t : Nat) : Prop := w2.2.2.1 81 (Q1 83) = I (Q1 32 : Nat) ∧ w2.2.2.1 82 (Q1 83) = I ((hdS sc1).1.length : Nat) ∧ A w2 23 (Q1 32) = (if K t = 6 then 9 else 10) ∧ A w2 28 (Q1 32) = -1 ∧ Q1 32 < 16000
/-- units and signs so far: S waits; the hooks there: of and, of or -/
def SGA (m0 w0 : MS) (K : Nat → Nat) (T : Nat) (nm Nk : Nat → Nat) (fof cvr : Int → Int → Int) (lst g : Bool) (lo0 a0 cm0 q0 : Nat) (Q0 : Nat → Nat) (sc0 : SCT) (mS wS : MS) : List Nat → Nat → Nat → Nat → Nat → (Nat → Nat) → SCT → MS → MS → Int32 → Int32 → Int32 → Int32 → Prop
  | [], p, a, cm, q, Q, sc, m, w, _, _, _, _ => XTR m0 w0 K T nm Nk fof cvr lst g [] lo0 p a0 a cm0 cm q0 q Q0 Q sc0 sc mS wS m w
  | t :: S, p, a, cm, q, Q, sc, m, w, v2, v3, v4, v5 => (∀ t', t' ∈ S → rkK (K t') < rkK (K t) ∨ (rkK (K t') = 4 ∧ rkK (K t) = 4)) ∧ ∃ (a1 cm1 q1 : Nat) (Q1 : Nat → Nat) (sc1 : SCT) (m1 w1 w2 : MS) (v2' v3' v4' v5' : Int32), SGA m0 w0 K T nm Nk fof cvr lst g lo0 a0 cm0 q0 Q0 sc0 mS wS S t a1 cm1 q1 Q1 sc1 m1 w1 v2' v3' v4' v5' ∧
      ((3 ≤ rkK (K t) ∧ PSd w0 K T w1 w2 Q1 (qst Q1 83 (Q1 83 + 1)) sc1 t ∧ XTR m0 w0 K T nm Nk fof cvr lst g [] (t + 1) p a1 a cm1 cm q1 q (qst Q1 83 (Q1 83 + 1)) Q sc1 sc m1 w2 m w ∧ (v2' = v2 ∧ v3' = v3 ∧ v4' = v4 ∧ v5' = v5)) ∨
       ((K t = 6 ∨ K t = 16) ∧ PSd w0 K T w1 w2 Q1 (qst (qst Q1 32 (Q1 32 + 1)) 83 (Q1 83 + 1)) sc1 t ∧ HNG K w2 Q1 sc1 t ∧ a1 + 2 ≤ 23990 ∧ XTR m0 w0 K T nm Nk fof cvr lst g [] (t + 1) p (a1 + 2) a cm1 cm q1 q (qst (qst Q1 32 (Q1 32 + 1)) 83 (Q1 83 + 1)) Q sc1 sc (ptcs m1 a1 [if K t = 6 then 13 else 14, 0]) w2 m w ∧ ((K t = 6 ∧ v2 = I ((a1 + 1 : Nat) : Int) ∧ v3 = I (tot sc1 : Nat) ∧ v4' = v4 ∧ v5' = v5) ∨ (K t = 16 ∧ v4 = I ((a1 + 1 : Nat) : Int) ∧ v5 = I (tot sc1 : Nat) ∧ v2' = v2 ∧ v3' = v3))))
section
variable {α β : Type} {m0 w0 m w m2 w2 m3 w3 v u w1 mS wS : MS} {K nm Nk W W2 : Nat → Nat} {N T D d o a a0 b b0 c cm cm0 cm2 cm3 q q0 r s lo lo0 mid hi i j f f2 n k kk p p2 σ tk x xa xb M m1 lv y : Nat} {Q Q0 Q2 Q3 Q4 : Nat → Nat} {sc sc0 sc2 sc3 t : SCT} {e : List Nat × List Nat × Nat} {g lst l2 : Bool} {L L1 L2 S : List Nat} {idc fof cvr : Int → Int → Int} {z : Unit} {rt v1 v2 v3 v4 v5 : Int32} {fc : MS → Unit → Option (MS × Unit)} {RR : MS → α → MS → Int32 → Prop} {A' : Option (MS × α)} {B' : Option (MS × Int32)}
theorem SGA_ext (h : SGA m0 w0 K T nm Nk fof cvr lst g lo0 a0 cm0 q0 Q0 sc0 mS wS S p a cm q Q sc m w v2 v3 v4 v5) (k : XTR m0 w0 K T nm Nk fof cvr lst g [] p p2 a b cm cm2 q r Q Q2 sc sc2 m w m2 w2) : SGA m0 w0 K T nm Nk fof cvr lst g lo0 a0 cm0 q0 Q0 sc0 mS wS S p2 b cm2 r Q2 sc2 m2 w2 v2 v3 v4 v5 := by
  cases S with
  | nil => exact XTR_tr h k
  | cons t S =>
    obtain ⟨h1, a1, cm1, q1, Q1, sc1, m1, w1, w2', v2', v3', v4', v5', h2, h3⟩ := h
    refine ⟨h1, a1, cm1, q1, Q1, sc1, m1, w1, w2', v2', v3', v4', v5', h2, ?_⟩
    rcases h3 with ⟨g1, g2, g3, g4⟩ | ⟨g1, g2, g3, g4, g5, g6⟩
    · exact Or.inl ⟨g1, g2, XTR_tr g3 k, g4⟩
    · exact Or.inr ⟨g1, g2, g3, g4, XTR_tr g5 k, g6⟩
/-- what is known now -/
theorem SGA_now (h : SGA m0 w0 K T nm Nk fof cvr lst g lo0 a0 cm0 q0 Q0 sc0 mS wS S p a cm q Q sc m w v2 v3 v4 v5) : XCS m0 nm m a cm sc g ∧ (XRS w0 T w p Q sc ∧ Q 56 = q) := by
  cases S with
  | nil => exact ⟨h.2.1, h.2.2.1⟩
  | cons t S =>
    obtain ⟨h1, a1, cm1, q1, Q1, sc1, m1, w1, w2', v2', v3', v4', v5', h2, h3⟩ := h
    rcases h3 with ⟨g1, g2, g3, g4⟩ | ⟨g1, g2, g3, g4, g5, g6⟩
    · exact ⟨g3.2.1, g3.2.2.1⟩
    · exact ⟨g5.2.1, g5.2.2.1⟩
theorem SGA_len : ∀ {S : List Nat} {p a cm q : Nat} {Q : Nat → Nat} {sc : SCT} {m w : MS} {v2 v3 v4 v5 : Int32}, SGA m0 w0 K T nm Nk fof cvr lst g lo0 a0 cm0 q0 Q0 sc0 mS wS S p a cm q Q sc m w v2 v3 v4 v5 → Q 83 = Q0 83 + S.length ∧ tot sc ≤ tot sc0 + (p - lo0) ∧ lo0 ≤ p ∧ a0 ≤ a ∧ Q0 32 ≤ Q 32 ∧ sc.length = sc0.length
  | [], _, _, _, _, _, _, _, _, _, _, _, _, h => ⟨h.2.2.2.2.2.2.1.2.2.2.2, h.2.2.2.1, h.1.1, h.1.2.1, h.2.2.2.2.2.2.1.2.1 32 (by decide), by
    obtain ⟨W, h5, -⟩ := h.2.2.2.2.1
    exact NWX_len (h5.2 rfl).2⟩
  | t :: S, p, a, cm, q, Q, sc, m, w, v2, v3, v4, v5, h => by
    obtain ⟨h1, a1, cm1, q1, Q1, sc1, m1, w1, w2', v2', v3', v4', v5', h2, h3⟩ := h
    obtain ⟨r1, r2, r3, r4, r5, r6⟩ := SGA_len h2
    have el : (t :: S).length = S.length + 1 := rfl
    rcases h3 with ⟨g1, g2, g3, g4⟩ | ⟨g1, g2, g3, g4, g5, g6⟩
    · have e1 := g3.2.2.2.2.2.2.1.2.2.2.2
      rw [qst_at] at e1
      have e2 := g3.2.2.2.1
      have e3 := g3.1
      have e4 := g3.2.2.2.2.2.2.1.2.1 32 (by decide)
      rw [qst_no (by decide)] at e4
      obtain ⟨W, h5, -⟩ := g3.2.2.2.2.1
      have e5 := NWX_len (h5.2 rfl).2
      exact ⟨by omega, by omega, by omega, by omega, by omega, by omega⟩
    · have e1 := g5.2.2.2.2.2.2.1.2.2.2.2
      rw [qst_at] at e1
      have e2 := g5.2.2.2.1
      have e3 := g5.1
      have e4 := g5.2.2.2.2.2.2.1.2.1 32 (by decide)
      rw [qst_no (by decide), qst_at] at e4
      obtain ⟨W, h5, -⟩ := g5.2.2.2.2.1
      have e5 := NWX_len (h5.2 rfl).2
      exact ⟨by omega, by omega, by omega, by omega, by omega, by omega⟩
/-- hooks that do not wait may be any -/
theorem SGA_v : ∀ {S : List Nat} {p a cm q : Nat} {Q : Nat → Nat} {sc : SCT} {m w : MS} {v2 v3 v4 v5 x2 x3 x4 x5 : Int32}, ((∀ t, t ∈ S → K t ≠ 6) ∨ (x2 = v2 ∧ x3 = v3)) → ((∀ t, t ∈ S → K t ≠ 16) ∨ (x4 = v4 ∧ x5 = v5)) → SGA m0 w0 K T nm Nk fof cvr lst g lo0 a0 cm0 q0 Q0 sc0 mS wS S p a cm q Q sc m w v2 v3 v4 v5 → SGA m0 w0 K T nm Nk fof cvr lst g lo0 a0 cm0 q0 Q0 sc0 mS wS S p a cm q Q sc m w x2 x3 x4 x5
  | [], _, _, _, _, _, _, _, _, _, _, _, _, _, _, _, _, _, _, h => h
  | t :: S, p, a, cm, q, Q, sc, m, w, v2, v3, v4, v5, x2, x3, x4, x5, n6, n16, h => by
    obtain ⟨h1, a1, cm1, q1, Q1, sc1, m1, w1, w2', v2', v3', v4', v5', h2, h3⟩ := h
    have n6' : (∀ t, t ∈ S → K t ≠ 6) ∨ (x2 = v2 ∧ x3 = v3) := n6.imp (fun z t ht => z t (List.mem_cons_of_mem _ ht)) id
    have n16' : (∀ t, t ∈ S → K t ≠ 16) ∨ (x4 = v4 ∧ x5 = v5) := n16.imp (fun z t ht => z t (List.mem_cons_of_mem _ ht)) id
    rcases h3 with ⟨g1, g2, g3, g4⟩ | ⟨g1, g2, g3, g4, g5, g6⟩
    · obtain ⟨rfl, rfl, rfl, rfl⟩ := g4
      exact ⟨h1, a1, cm1, q1, Q1, sc1, m1, w1, w2', x2, x3, x4, x5, SGA_v n6' n16' h2, Or.inl ⟨g1, g2, g3, rfl, rfl, rfl, rfl⟩⟩
    · rcases g6 with ⟨k6, e2, e3, rfl, rfl⟩ | ⟨k16, e2, e3, rfl, rfl⟩
      · have y6 : x2 = v2 ∧ x3 = v3 := n6.resolve_left (fun z => z t List.mem_cons_self k6)
        refine ⟨h1, a1, cm1, q1, Q1, sc1, m1, w1, w2', v2', v3', x4, x5, SGA_v (Or.inr ⟨rfl, rfl⟩) n16' h2, Or.inr ⟨g1, g2, g3, g4, g5, Or.inl ⟨k6, y6.1.trans e2, y6.2.trans e3, rfl, rfl⟩⟩⟩
      · have y16 : x4 = v4 ∧ x5 = v5 := n16.resolve_left (fun z => z t List.mem_cons_self k16)
        refine ⟨h1, a1, cm1, q1, Q1, sc1, m1, w1, w2', x2, x3, v4', v5', SGA_v n6' (Or.inr ⟨rfl, rfl⟩) h2, Or.inr ⟨g1, g2, g3, g4, g5, Or.inr ⟨k16, y16.1.trans e2, y16.2.trans e3, rfl, rfl⟩⟩⟩
/-- behind the push: on to the unit -/
theorem ps_292 {S : SG_M_behind} (c : CTZ m0 w0 K T nm Nk) (hX : XRS w0 T w y Q sc) (hy : y < T) (hp : w.1 83 = I (p : Nat)) (hp3 : p < 3000) (h : ∀ M u, XRS w0 T u (y + 1) (qst Q 83 (p + 1)) sc → u.2 = w.2 → PP RR A' ((kg_M_worked N S M).2 u v1)) : PP RR A' (kb_M_worked_292 N S (kg_M_worked N S M) w v1 v2 1) := by
  unfold kb_M_worked_292 kb_M_worked_331
  have e1 : w.1 83 + 1 = I ((p + 1 : Nat) : Int) := by rw [hp, i_suc]
  rw [lt_e, e1]
  have h1 : XRS w0 T (upI w 83 (I ((p + 1 : Nat) : Int))) y (qst Q 83 (p + 1)) sc := by
    refine ⟨?_, QMK_st hX.2 (by omega)⟩
    rw [qst_no (by decide)]
    exact PRS_x hX.1 (fun k hk => upI_ne (by rintro rfl; revert hk; decide)) (fun _ _ => rfl) (by rw [upI_ne (by decide)]; exact hX.1.2.1.1)
  have e2 : (upI w 83 (I ((p + 1 : Nat) : Int))).1 69 + 1 = I ((y + 1 : Nat) : Int) := by rw [h1.1.2.1.1, i_suc]
  rw [lt_e, e2]
  have hA := XRS_ad h1 hy
  rw [show upI (upI w 83 (I ((p + 1 : Nat) : Int))) 69 (I ((y + 1 : Nat) : Int)) = adv (upI w 83 (I ((p + 1 : Nat) : Int))) y from rfl, decide_eq_true hA.1.2.2.1, br_t, bU_m (XRS_wp c hA), bnd_s]
  cases bUK (K (y + 1)) with
  | false =>
    rw [show decide (b2c false = 0) = true from rfl, br_t]
    exact pp_nr
  | true =>
    rw [show decide (b2c true = 0) = false from rfl, br_f]
    cases M with
    | zero => exact pp_nr
    | succ M =>
      show PP RR A' (kb_M_worked_9 N S (kg_M_worked N S M) (adv (upI w 83 (I ((p + 1 : Nat) : Int))) y) v1 v2 1)
      unfold kb_M_worked_9
      rw [show decide ((1 : Int32) = 0) = false from rfl, br_f, decide_eq_true hA.1.2.2.1, br_t]
      exact h M _ hA rfl
theorem nbyt {k : Nat} (h : k ≤ 100) : vp_nar .byte ((I (k : Nat)).toInt8.toInt32) = I (k : Nat) := nar_byte (t := (k : Nat)) (by omega)
/-- a sign is put on the stack, here -/
theorem ps_k {S : SG_M_behind} (c : CTZ m0 w0 K T nm Nk) (hX : XRS w0 T w y Q sc) (h1 : 1 ≤ rkK (K y)) (h : ∀ M w2, (3 ≤ rkK (K y) ∧ PSd w0 K T w w2 Q (qst Q 83 (Q 83 + 1)) sc y) ∨ ((K y = 6 ∨ K y = 16) ∧ PSd w0 K T w w2 Q (qst (qst Q 32 (Q 32 + 1)) 83 (Q 83 + 1)) sc y ∧ HNG K w2 Q sc y) → PP RR A' ((kg_M_worked N S M).2 w2 v1)) : PP RR A' (kb_M_worked_189 N S (kg_M_worked N S M) w v1 v2 1 (I (rkK (K y) : Nat))) := by
  have hw := XRS_wp c hX
  have k46 := hw.1.1.k46 hw.2.2
  have t4 := c.2.1.1.1
  have kb : 1 ≤ K y ∧ K y ≤ 44 := by
    have : ∀ k, k < 46 → 1 ≤ rkK k → 1 ≤ k ∧ k ≤ 44 := by decide
    exact this _ k46 h1
  have hy : y < T := c.2.1.1.lt hX.1.2.1.2 kb.1 kb.2
  have r6 := rk6 k46
  have h83 := hX.2 83 (by decide)
  unfold kb_M_worked_189
  rw [h83.1, i_nt2 (p := Q 83) (by omega), nbyt (by omega)]
  refine r_ck (fun zp => r_lt ?_)
  have hp3 : Q 83 < 3000 := by
    have := (I_inb (n := ln 79) (x := ((Q 83 : Nat) : Int)) (by omega) (by omega)).mp zp
    have l79 : ln 79 = 3000 := rfl
    omega
  have e1 : ∀ gg, (upA w 79 gg).1 83 = I (Q 83 : Nat) := fun _ => h83.1
  have e2 : ∀ gg, (upA w 79 gg).1 69 = I (y : Nat) := fun _ => hX.1.2.1.1
  rw [e1, e2, i_nt2 (p := Q 83) (by omega), nsh (by omega)]
  refine r_ck (fun _ => r_lt ?_)
  have hQ : QRR Q w (upA (upA w 79 (upd (w.2.2.1 79) (Q 83) (I (rkK (K y) : Nat)))) 80 (upd ((upA w 79 (upd (w.2.2.1 79) (Q 83) (I (rkK (K y) : Nat)))).2.2.1 80) (Q 83) (I (y : Nat)))) := QRR_A (QRR_A QRR_rf (by decide) (Nat.le_refl _)) (by decide) (Nat.le_refl _)
  have r79 : (upA (upA w 79 (upd (w.2.2.1 79) (Q 83) (I (rkK (K y) : Nat)))) 80 (upd ((upA w 79 (upd (w.2.2.1 79) (Q 83) (I (rkK (K y) : Nat)))).2.2.1 80) (Q 83) (I (y : Nat)))).2.2.1 79 (Q 83) = I (rkK (K y) : Nat) := by rw [upA_no (by decide), upA_at, upd_at]
  have r80 : (upA (upA w 79 (upd (w.2.2.1 79) (Q 83) (I (rkK (K y) : Nat)))) 80 (upd ((upA w 79 (upd (w.2.2.1 79) (Q 83) (I (rkK (K y) : Nat)))).2.2.1 80) (Q 83) (I (y : Nat)))).2.2.1 80 (Q 83) = I (y : Nat) := by rw [upA_at, upd_at]
  have hX1 : XRS w0 T (upA (upA w 79 (upd (w.2.2.1 79) (Q 83) (I (rkK (K y) : Nat)))) 80 (upd ((upA w 79 (upd (w.2.2.1 79) (Q 83) (I (rkK (K y) : Nat)))).2.2.1 80) (Q 83) (I (y : Nat)))) y Q sc := ⟨PRS_x hX.1 (fun _ _ => rfl) (fun k hk => by rw [upA_no (by omega), upA_no (by omega)]) hX.1.2.1.1, hX.2⟩
  generalize upA (upA w 79 (upd (w.2.2.1 79) (Q 83) (I (rkK (K y) : Nat)))) 80 (upd ((upA w 79 (upd (w.2.2.1 79) (Q 83) (I (rkK (K y) : Nat)))).2.2.1 80) (Q 83) (I (y : Nat))) = V at hQ r79 r80 hX1
  have V83 := (hX1.2 83 (by decide)).1
  -- behind it: a rule in GUARDS
  have e269 : ∀ (U : MS) (QU : Nat → Nat), XRS w0 T U y QU sc → QU 83 = Q 83 → (∀ M u, XRS w0 T u (y + 1) (qst QU 83 (Q 83 + 1)) sc → u.2 = U.2 → PP RR A' ((kg_M_worked N S M).2 u v1)) → PP RR A' (kb_M_worked_269 N S (kg_M_worked N S M) U v1 v2 1 (I (rkK (K y) : Nat))) := fun U QU hU qU hh => by
    unfold kb_M_worked_269
    have U83 : U.1 83 = I (Q 83 : Nat) := by have := (hU.2 83 (by decide)).1; rw [qU] at this; exact this
    have e0 : PP RR A' (kb_M_worked_292 N S (kg_M_worked N S M) U v1 v2 1) := ps_292 c hU hy U83 hp3 hh
    refine r_br (fun _ => e0) (fun _ => r_br (fun _ => r_rul (fun v hv => ?_)) (fun _ => e0))
    exact ps_292 c (RUL_x hv hU) hy (by rw [hv.1 83 (by decide) (by decide)]; exact U83) hp3 (fun M u h1 h2 => hh M u h1 (h2.trans hv.2))
  rw [show (3 : Int32) = I ((3 : Nat) : Int) from rfl, decI (by omega) (by omega) (by omega) (by omega)]
  by_cases z3 : 3 ≤ rkK (K y)
  · rw [decide_eq_true (by omega), br_t]
    refine e269 V Q hX1 rfl (fun M u h1 h2 => h M u (Or.inl ⟨z3, h1, ?_, ?_, ?_, hp3⟩))
    · exact QRR_e hQ (by rw [h2]) (by rw [h2])
    · rw [show u.2.2.1 = V.2.2.1 by rw [h2]]; exact r79
    · rw [show u.2.2.1 = V.2.2.1 by rw [h2]]; exact r80
  · rw [decide_eq_false (by omega), br_f]
    have k616 : K y = 6 ∨ K y = 16 := by
      have : ∀ k, k < 46 → 1 ≤ rkK k → ¬ 3 ≤ rkK k → k = 6 ∨ k = 16 := by decide
      exact this _ k46 h1 z3
    have e243 : ∀ t3 : Int32, vp_nar .byte (t3.toInt8.toInt32) = t3 → t3.toInt = (if K y = 6 then 9 else 10) → PP RR A' (kb_M_worked_243 N S (kg_M_worked N S M) V v1 v2 1 (I (rkK (K y) : Nat)) 81 (V.1 83) t3) := fun t3 b3 ht3 => by
      unfold kb_M_worked_243
      obtain ⟨n1, n2⟩ := XRS_q hX1
      rw [hX1.1.2.1.1, V83]
      refine r_nod n1 n2 b3 (nsh (by omega)) (fun h16 => ?_)
      have d0 : NOD V (nwD V (Q 32) t3 (I (y : Nat))) (Q 32) := NOD_0 n1
      obtain ⟨d1, d2, d3, d4, d5, d6, d7, d8⟩ := nwD_at (w := V) (i := Q 32) (k := t3) (t := I (y : Nat))
      have hX2 : XRS w0 T (nwD V (Q 32) t3 (I (y : Nat))) y (qst Q 32 (Q 32 + 1)) sc := XRS_n hX1 d0.1 (fun k hk => funext (fun j => d0.2.2.1 k j (by omega))) (by rw [nwD_i (by decide)]; exact hX1.1.2.1.1) hX1.1.2.1.2 d0.2.1 (by omega)
      have hQ2 : QRR Q w (nwD V (Q 32) t3 (I (y : Nat))) := QRR_D hQ (Nat.le_refl _)
      have d9 : ∀ k, k = 79 ∨ k = 80 → (nwD V (Q 32) t3 (I (y : Nat))).2.2.1 k = V.2.2.1 k := fun k hk => nwD_r (by omega)
      generalize nwD V (Q 32) t3 (I (y : Nat)) = U at d1 d2 d3 d4 d5 d6 d7 d8 d9 hX2 hQ2
      rw [i_nt2 (p := Q 83) (by omega)]
      refine r_ck (fun _ => r_ck (fun _ => r_lt ?_))
      have f83 : (upA U 81 (upd (U.2.2.1 81) (Q 83) (I (Q 32 : Nat)))).1 83 = I (Q 83 : Nat) := by
        have := (hX2.2 83 (by decide)).1
        rw [qst_no (by decide)] at this
        exact this
      obtain ⟨e, t, rfl⟩ := PRS_ne hX.1
      have rn := hX2.1.2.2.2.1
      have tl : t.length + 1 ≤ 27 := rn.2.1.2
      have f65 : (upA U 81 (upd (U.2.2.1 81) (Q 83) (I (Q 32 : Nat)))).1 65 = I (t.length : Nat) := rn.1
      have f60 : (upA U 81 (upd (U.2.2.1 81) (Q 83) (I (Q 32 : Nat)))).2.2.1 60 t.length = I (e.1.length : Nat) := by
        rw [upA_no (by decide)]; exact rn.2.2.1.1.1
      rw [f83, f65, i_nt2 (p := Q 83) (by omega), i_nt2 (p := t.length) (by omega), f60]
      refine r_ck (fun _ => r_ck (fun _ => r_lt ?_))
      have rr : ∀ k, k ≠ 81 → k ≠ 82 → (upA (upA U 81 (upd (U.2.2.1 81) (Q 83) (I (Q 32 : Nat)))) 82 (upd ((upA U 81 (upd (U.2.2.1 81) (Q 83) (I (Q 32 : Nat)))).2.2.1 82) (Q 83) (I (e.1.length : Nat)))).2.2.1 k = U.2.2.1 k := fun k h1 h2 => by rw [upA_no h2, upA_no h1]
      have r81 : (upA (upA U 81 (upd (U.2.2.1 81) (Q 83) (I (Q 32 : Nat)))) 82 (upd ((upA U 81 (upd (U.2.2.1 81) (Q 83) (I (Q 32 : Nat)))).2.2.1 82) (Q 83) (I (e.1.length : Nat)))).2.2.1 81 (Q 83) = I (Q 32 : Nat) := by rw [upA_no (by decide), upA_at, upd_at]
      have r82 : (upA (upA U 81 (upd (U.2.2.1 81) (Q 83) (I (Q 32 : Nat)))) 82 (upd ((upA U 81 (upd (U.2.2.1 81) (Q 83) (I (Q 32 : Nat)))).2.2.1 82) (Q 83) (I (e.1.length : Nat)))).2.2.1 82 (Q 83) = I (e.1.length : Nat) := by rw [upA_at, upd_at]
      have hQ3 : QRR Q w (upA (upA U 81 (upd (U.2.2.1 81) (Q 83) (I (Q 32 : Nat)))) 82 (upd ((upA U 81 (upd (U.2.2.1 81) (Q 83) (I (Q 32 : Nat)))).2.2.1 82) (Q 83) (I (e.1.length : Nat)))) := QRR_A (QRR_A hQ2 (by decide) (Nat.le_refl _)) (by decide) (Nat.le_refl _)
      have hX3 : XRS w0 T (upA (upA U 81 (upd (U.2.2.1 81) (Q 83) (I (Q 32 : Nat)))) 82 (upd ((upA U 81 (upd (U.2.2.1 81) (Q 83) (I (Q 32 : Nat)))).2.2.1 82) (Q 83) (I (e.1.length : Nat)))) y (qst Q 32 (Q 32 + 1)) (e :: t) := ⟨PRS_x hX2.1 (fun _ _ => rfl) (fun k hk => rr k (by omega) (by omega)) hX2.1.2.1.1, hX2.2⟩
      generalize upA (upA U 81 (upd (U.2.2.1 81) (Q 83) (I (Q 32 : Nat)))) 82 (upd ((upA U 81 (upd (U.2.2.1 81) (Q 83) (I (Q 32 : Nat)))).2.2.1 82) (Q 83) (I (e.1.length : Nat))) = X at rr r81 r82 hQ3 hX3
      refine e269 X (qst Q 32 (Q 32 + 1)) hX3 (qst_no (by decide)) (fun M u h1 h2 => h M u (Or.inr ⟨k616, ⟨h1, QRR_e hQ3 (by rw [h2]) (by rw [h2]), ?_, ?_, hp3⟩, ?_, ?_, ?_, ?_, h16⟩))
      · rw [show u.2.2.1 = X.2.2.1 by rw [h2], rr 79 (by decide) (by decide), d9 79 (Or.inl rfl)]; exact r79
      · rw [show u.2.2.1 = X.2.2.1 by rw [h2], rr 80 (by decide) (by decide), d9 80 (Or.inr rfl)]; exact r80
      · rw [show u.2.2.1 = X.2.2.1 by rw [h2]]; exact r81
      · rw [show u.2.2.1 = X.2.2.1 by rw [h2]]; exact r82
      · show (u.2.2.1 23 (Q 32)).toInt = _
        rw [show u.2.2.1 = X.2.2.1 by rw [h2], rr 23 (by decide) (by decide), d1]; exact ht3
      · show (u.2.2.1 28 (Q 32)).toInt = _
        rw [show u.2.2.1 = X.2.2.1 by rw [h2], rr 28 (by decide) (by decide), d6]; rfl
    rcases k616 with z | z
    · rw [decide_eq_false (by rw [z]; decide), br_f]
      exact e243 9 rfl (by rw [if_pos z]; rfl)
    · rw [decide_eq_true (by rw [z]; decide), br_t]
      exact e243 10 rfl (by rw [if_neg (by omega)]; rfl)
end
