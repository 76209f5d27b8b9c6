section
set_option maxRecDepth 100000
def PSd (w0 : MS) (K : Nat → Nat) (T : Nat) (w1 w2 : MS) (Q1 Q2 : Nat → Nat) (sc1 : SCT) (t : Nat) : Prop := XRS w0 T w2 (t + 1) Q2 sc1 ∧ QRR Q1 w1 w2 ∧ w2.2.2.1 79 (Q1 83) = I (rkK (K t) : Nat) ∧ w2.2.2.1 80 (Q1 83) = I (t : Nat) ∧ Q1 83 < 3000
def HNG (K : Nat → Nat) (w2 : MS) (Q1 : Nat → Nat) (sc1 : SCT) (t : Nat) : Prop := w2.2.2.1 81 (Q1 83) = I (Q1 32 : Nat) ∧ w2.2.2.1 82 (Q1 83) = I ((hdS sc1).1.length : Nat) ∧ A w2 23 (Q1 32) = (if K t = 6 then 9 else 10) ∧ A w2 28 (Q1 32) = -1 ∧ Q1 32 < 16000
def SGA (m0 w0 : MS) (K : Nat → Nat) (T : Nat) (nm Nk : Nat → Nat) (fof cvr : Int → Int → Int) (lst g : Bool) (lo0 a0 cm0 q0 : Nat) (Q0 : Nat → Nat) (sc0 : SCT) (mS wS : MS) : List Nat → Nat → Nat → Nat → Nat → (Nat → Nat) → SCT → MS → MS → Int32 → Int32 → Int32 → Int32 → Prop
  | [], p, a, cm, q, Q, sc, m, w, _, _, _, _ => XTR m0 w0 K T nm Nk fof cvr lst g [] lo0 p a0 a cm0 cm q0 q Q0 Q sc0 sc mS wS m w
  | t :: S, p, a, cm, q, Q, sc, m, w, v2, v3, v4, v5 => (∀ t', t' ∈ S → rkK (K t') < rkK (K t) ∨ (rkK (K t') = 4 ∧ rkK (K t) = 4)) ∧ ∃ (a1 cm1 q1 : Nat) (Q1 : Nat → Nat) (sc1 : SCT) (m1 w1 w2 : MS) (v2' v3' v4' v5' : Int32), SGA m0 w0 K T nm Nk fof cvr lst g lo0 a0 cm0 q0 Q0 sc0 mS wS S t a1 cm1 q1 Q1 sc1 m1 w1 v2' v3' v4' v5' ∧
      ((3 ≤ rkK (K t) ∧ PSd w0 K T w1 w2 Q1 (qst Q1 83 (Q1 83 + 1)) sc1 t ∧ XTR m0 w0 K T nm Nk fof cvr lst g [] (t + 1) p a1 a cm1 cm q1 q (qst Q1 83 (Q1 83 + 1)) Q sc1 sc m1 w2 m w ∧ (v2' = v2 ∧ v3' = v3 ∧ v4' = v4 ∧ v5' = v5)) ∨
       ((K t = 6 ∨ K t = 16) ∧ PSd w0 K T w1 w2 Q1 (qst (qst Q1 32 (Q1 32 + 1)) 83 (Q1 83 + 1)) sc1 t ∧ HNG K w2 Q1 sc1 t ∧ a1 + 2 ≤ 23990 ∧ XTR m0 w0 K T nm Nk fof cvr lst g [] (t + 1) p (a1 + 2) a cm1 cm q1 q (qst (qst Q1 32 (Q1 32 + 1)) 83 (Q1 83 + 1)) Q sc1 sc (ptcs m1 a1 [if K t = 6 then 13 else 14, 0]) w2 m w ∧ ((K t = 6 ∧ v2 = I ((a1 + 1 : Nat) : Int) ∧ v3 = I (tot sc1 : Nat) ∧ v4' = v4 ∧ v5' = v5) ∨ (K t = 16 ∧ v4 = I ((a1 + 1 : Nat) : Int) ∧ v5 = I (tot sc1 : Nat) ∧ v2' = v2 ∧ v3' = v3))))
section
variable {α β : Type} {m0 w0 m w m2 w2 m3 w3 v u w1 mS wS : MS} {K nm Nk W W2 : Nat → Nat} {N T D d o a a0 b b0 c cm cm0 cm2 cm3 q q0 r s lo lo0 mid hi i j f f2 n k kk p p2 σ tk x xa xb M m1 lv y : Nat} {Q Q0 Q2 Q3 Q4 : Nat → Nat} {sc sc0 sc2 sc3 t : SCT} {e : List Nat × List Nat × Nat} {g lst l2 : Bool} {L L1 L2 S : List Nat} {idc fof cvr : Int → Int → Int} {z : Unit} {rt v1 v2 v3 v4 v5 : Int32} {fc : MS → Unit → Option (MS × Unit)} {RR : MS → α → MS → Int32 → Prop} {A' : Option (MS × α)} {B' : Option (MS × Int32)}
theorem SGA_ext (h : SGA m0 w0 K T nm Nk fof cvr lst g lo0 a0 cm0 q0 Q0 sc0 mS wS S p a cm q Q sc m w v2 v3 v4 v5) (k : XTR m0 w0 K T nm Nk fof cvr lst g [] p p2 a b cm cm2 q r Q Q2 sc sc2 m w m2 w2) : SGA m0 w0 K T nm Nk fof cvr lst g lo0 a0 cm0 q0 Q0 sc0 mS wS S p2 b cm2 r Q2 sc2 m2 w2 v2 v3 v4 v5 := by
  cases S with
  | nil => exact XTR_tr h k
  | cons t S =>
    obtain ⟨h1, a1, cm1, q1, Q1, sc1, m1, w1, w2', v2', v3', v4', v5', h2, h3⟩ := h
    refine ⟨h1, a1, cm1, q1, Q1, sc1, m1, w1, w2', v2', v3', v4', v5', h2, ?_⟩
    rcases h3 with ⟨g1, g2, g3, g4⟩ | ⟨g1, g2, g3, g4, g5, g6⟩
    · exact Or.inl ⟨g1, g2, XTR_tr g3 k, g4⟩
    · exact Or.inr ⟨g1, g2, g3, g4, XTR_tr g5 k, g6⟩
theorem SGA_now (h : SGA m0 w0 K T nm Nk fof cvr lst g lo0 a0 cm0 q0 Q0 sc0 mS wS S p a cm q Q sc m w v2 v3 v4 v5) : XCS m0 nm m a cm sc g ∧ (XRS w0 T w p Q sc ∧ Q 56 = q) := by
  cases S with
  | nil => exact ⟨h.2.1, h.2.2.1⟩
  | cons t S =>
    obtain ⟨h1, a1, cm1, q1, Q1, sc1, m1, w1, w2', v2', v3', v4', v5', h2, h3⟩ := h
    rcases h3 with ⟨g1, g2, g3, g4⟩ | ⟨g1, g2, g3, g4, g5, g6⟩
    · exact ⟨g3.2.1, g3.2.2.1⟩
    · exact ⟨g5.2.1, g5.2.2.1⟩
theorem SGA_len : ∀ {S : List Nat} {p a cm q : Nat} {Q : Nat → Nat} {sc : SCT} {m w : MS} {v2 v3 v4 v5 : Int32}, SGA m0 w0 K T nm Nk fof cvr lst g lo0 a0 cm0 q0 Q0 sc0 mS wS S p a cm q Q sc m w v2 v3 v4 v5 → Q 83 = Q0 83 + S.length ∧ tot sc ≤ tot sc0 + (p - lo0) ∧ lo0 ≤ p ∧ a0 ≤ a ∧ Q0 32 ≤ Q 32 ∧ sc.length = sc0.length
  | [], _, _, _, _, _, _, _, _, _, _, _, _, h => ⟨h.2.2.2.2.2.2.1.2.2.2.2, h.2.2.2.1, h.1.1, h.1.2.1, h.2.2.2.2.2.2.1.2.1 32 (by decide), by
    obtain ⟨W, h5, -⟩ := h.2.2.2.2.1
    exact NWX_len (h5.2 rfl).2⟩
  | t :: S, p, a, cm, q, Q, sc, m, w, v2, v3, v4, v5, h => by
    obtain ⟨h1, a1, cm1, q1, Q1, sc1, m1, w1, w2', v2', v3', v4', v5', h2, h3⟩ := h
    obtain ⟨r1, r2, r3, r4, r5, r6⟩ := SGA_len h2
    have el : (t :: S).length = S.length + 1 := rfl
    rcases h3 with ⟨g1, g2, g3, g4⟩ | ⟨g1, g2, g3, g4, g5, g6⟩
    · have e1 := g3.2.2.2.2.2.2.1.2.2.2.2
      rw [qst_at] at e1
      have e2 := g3.2.2.2.1
      have e3 := g3.1
      have e4 := g3.2.2.2.2.2.2.1.2.1 32 (by decide)
      rw [qst_no (by decide)] at e4
      obtain ⟨W, h5, -⟩ := g3.2.2.2.2.1
      have e5 := NWX_len (h5.2 rfl).2
      exact ⟨by omega, by omega, by omega, by omega, by omega, by omega⟩
    · have e1 := g5.2.2.2.2.2.2.1.2.2.2.2
      rw [qst_at] at e1
      have e2 := g5.2.2.2.1
      have e3 := g5.1
      have e4 := g5.2.2.2.2.2.2.1.2.1 32 (by decide)
      rw [qst_no (by decide), qst_at] at e4
      obtain ⟨W, h5, -⟩ := g5.2.2.2.2.1
      have e5 := NWX_len (h5.2 rfl).2
      exact ⟨by omega, by omega, by omega, by omega, by omega, by omega⟩
theorem SGA_v : ∀ {S : List Nat} {p a cm q : Nat} {Q : Nat → Nat} {sc : SCT} {m w : MS} {v2 v3 v4 v5 x2 x3 x4 x5 : Int32}, ((∀ t, t ∈ S → K t ≠ 6) ∨ (x2 = v2 ∧ x3 = v3)) → ((∀ t, t ∈ S → K t ≠ 16) ∨ (x4 = v4 ∧ x5 = v5)) → SGA m0 w0 K T nm Nk fof cvr lst g lo0 a0 cm0 q0 Q0 sc0 mS wS S p a cm q Q sc m w v2 v3 v4 v5 → SGA m0 w0 K T nm Nk fof cvr lst g lo0 a0 cm0 q0 Q0 sc0 mS wS S p a cm q Q sc m w x2 x3 x4 x5
  | [], _, _, _, _, _, _, _, _, _, _, _, _, _, _, _, _, _, _, h => h
  | t :: S, p, a, cm, q, Q, sc, m, w, v2, v3, v4, v5, x2, x3, x4, x5, n6, n16, h => by
    obtain ⟨h1, a1, cm1, q1, Q1, sc1, m1, w1, w2', v2', v3', v4', v5', h2, h3⟩ := h
    have n6' : (∀ t, t ∈ S → K t ≠ 6) ∨ (x2 = v2 ∧ x3 = v3) := n6.imp (fun z t ht => z t (List.mem_cons_of_mem _ ht)) id
    have n16' : (∀ t, t ∈ S → K t ≠ 16) ∨ (x4 = v4 ∧ x5 = v5) := n16.imp (fun z t ht => z t (List.mem_cons_of_mem _ ht)) id
    rcases h3 with ⟨g1, g2, g3, g4⟩ | ⟨g1, g2, g3, g4, g5, g6⟩
    · obtain ⟨rfl, rfl, rfl, rfl⟩ := g4
      exact ⟨h1, a1, cm1, q1, Q1, sc1, m1, w1, w2', x2, x3, x4, x5, SGA_v n6' n16' h2, Or.inl ⟨g1, g2, g3, rfl, rfl, rfl, rfl⟩⟩
    · rcases g6 with ⟨k6, e2, e3, rfl, rfl⟩ | ⟨k16, e2, e3, rfl, rfl⟩
      · have y6 : x2 = v2 ∧ x3 = v3 := n6.resolve_left (fun z => z t List.mem_cons_self k6)
        refine ⟨h1, a1, cm1, q1, Q1, sc1, m1, w1, w2', v2', v3', x4, x5, SGA_v (Or.inr ⟨rfl, rfl⟩) n16' h2, Or.inr ⟨g1, g2, g3, g4, g5, Or.inl ⟨k6, y6.1.trans e2, y6.2.trans e3, rfl, rfl⟩⟩⟩
      · have y16 : x4 = v4 ∧ x5 = v5 := n16.resolve_left (fun z => z t List.mem_cons_self k16)
        refine ⟨h1, a1, cm1, q1, Q1, sc1, m1, w1, w2', x2, x3, v4', v5', SGA_v n6' (Or.inr ⟨rfl, rfl⟩) h2, Or.inr ⟨g1, g2, g3, g4, g5, Or.inr ⟨k16, y16.1.trans e2, y16.2.trans e3, rfl, rfl⟩⟩⟩
theorem ps_292 {S : SG_M_behind} (c : CTZ m0 w0 K T nm Nk) (hX : XRS w0 T w y Q sc) (hy : y < T) (hp : w.1 83 = I (p : Nat)) (hp3 : p < 3000) (h : ∀ M u, XRS w0 T u (y + 1) (qst Q 83 (p + 1)) sc → u.2 = w.2 → PP RR A' ((kg_M_worked N S M).2 u v1)) : PP RR A' (kb_M_worked_292 N S (kg_M_worked N S M) w v1 v2 1) := by
  unfold kb_M_worked_292 kb_M_worked_331
  have e1 : w.1 83 + 1 = I ((p + 1 : Nat) : Int) := by rw [hp, i_suc]
  rw [lt_e, e1]
  have h1 : XRS w0 T (upI w 83 (I ((p + 1 : Nat) : Int))) y (qst Q 83 (p + 1)) sc := by
    refine ⟨?_, QMK_st hX.2 (by omega)⟩
    rw [qst_no (by decide)]
    exact PRS_x hX.1 (fun k hk => upI_ne (by rintro rfl; revert hk; decide)) (fun _ _ => rfl) (by rw [upI_ne (by decide)]; exact hX.1.2.1.1)
  have e2 : (upI w 83 (I ((p + 1 : Nat) : Int))).1 69 + 1 = I ((y + 1 : Nat) : Int) := by rw [h1.1.2.1.1, i_suc]
  rw [lt_e, e2]
  have hA := XRS_ad h1 hy
  rw [show upI (upI w 83 (I ((p + 1 : Nat) : Int))) 69 (I ((y + 1 : Nat) : Int)) = adv (upI w 83 (I ((p + 1 : Nat) : Int))) y from rfl, decide_eq_true hA.1.2.2.1, br_tq, bU_m (XRS_wp c hA), bnd_s]
  cases bUK (K (y + 1)) with
  | false =>
    rw [show decide (b2c false = 0) = true from rfl, br_tq]
    exact pp_nr
  | true =>
    rw [show decide (b2c true = 0) = false from rfl, br_fq]
    cases M with
    | zero => exact pp_nr
    | succ M =>
      show PP RR A' (kb_M_worked_9 N S (kg_M_worked N S M) (adv (upI w 83 (I ((p + 1 : Nat) : Int))) y) v1 v2 1)
      unfold kb_M_worked_9
      rw [show decide ((1 : Int32) = 0) = false from rfl, br_fq, decide_eq_true hA.1.2.2.1, br_tq]
      exact h M _ hA rfl
theorem nbyt {k : Nat} (h : k ≤ 100) : vp_nar .byte ((I (k : Nat)).toInt8.toInt32) = I (k : Nat) := nar_byte (t := (k : Nat)) (by omega)
theorem ps_k {S : SG_M_behind} (c : CTZ m0 w0 K T nm Nk) (hX : XRS w0 T w y Q sc) (h1 : 1 ≤ rkK (K y)) (h : ∀ M w2, (3 ≤ rkK (K y) ∧ PSd w0 K T w w2 Q (qst Q 83 (Q 83 + 1)) sc y) ∨ ((K y = 6 ∨ K y = 16) ∧ PSd w0 K T w w2 Q (qst (qst Q 32 (Q 32 + 1)) 83 (Q 83 + 1)) sc y ∧ HNG K w2 Q sc y) → PP RR A' ((kg_M_worked N S M).2 w2 v1)) : PP RR A' (kb_M_worked_189 N S (kg_M_worked N S M) w v1 v2 1 (I (rkK (K y) : Nat))) := by
  have hw := XRS_wp c hX
  have k46 := hw.1.1.k46 hw.2.2
  have t4 := c.2.1.1.1
  have kb : 1 ≤ K y ∧ K y ≤ 44 := by
    have : ∀ k, k < 46 → 1 ≤ rkK k → 1 ≤ k ∧ k ≤ 44 := by decide
    exact this _ k46 h1
  have hy : y < T := c.2.1.1.lt hX.1.2.1.2 kb.1 kb.2
  have r6 := rk6 k46
  have h83 := hX.2 83 (by decide)
  unfold kb_M_worked_189
  rw [h83.1, i_nt2 (p := Q 83) (by omega), nbyt (by omega)]
  refine r_ck (fun zp => r_lt ?_)
  have hp3 : Q 83 < 3000 := by
    have := (I_inb (n := ln 79) (x := ((Q 83 : Nat) : Int)) (by omega) (by omega)).mp zp
    have l79 : ln 79 = 3000 := rfl
    omega
  have e1 : ∀ gg, (upA w 79 gg).1 83 = I (Q 83 : Nat) := fun _ => h83.1
  have e2 : ∀ gg, (upA w 79 gg).1 69 = I (y : Nat) := fun _ => hX.1.2.1.1
  rw [e1, e2, i_nt2 (p := Q 83) (by omega), nsh (by omega)]
  refine r_ck (fun _ => r_lt ?_)
  have hQ : QRR Q w (upA (upA w 79 (upd (w.2.2.1 79) (Q 83) (I (rkK (K y) : Nat)))) 80 (upd ((upA w 79 (upd (w.2.2.1 79) (Q 83) (I (rkK (K y) : Nat)))).2.2.1 80) (Q 83) (I (y : Nat)))) := QRR_A (QRR_A QRR_rf (by decide) (Nat.le_refl _)) (by decide) (Nat.le_refl _)
  have r79 : (upA (upA w 79 (upd (w.2.2.1 79) (Q 83) (I (rkK (K y) : Nat)))) 80 (upd ((upA w 79 (upd (w.2.2.1 79) (Q 83) (I (rkK (K y) : Nat)))).2.2.1 80) (Q 83) (I (y : Nat)))).2.2.1 79 (Q 83) = I (rkK (K y) : Nat) := by rw [upA_no (by decide), upA_at, upd_at]
  have r80 : (upA (upA w 79 (upd (w.2.2.1 79) (Q 83) (I (rkK (K y) : Nat)))) 80 (upd ((upA w 79 (upd (w.2.2.1 79) (Q 83) (I (rkK (K y) : Nat)))).2.2.1 80) (Q 83) (I (y : Nat)))).2.2.1 80 (Q 83) = I (y : Nat) := by rw [upA_at, upd_at]
  have hX1 : XRS w0 T (upA (upA w 79 (upd (w.2.2.1 79) (Q 83) (I (rkK (K y) : Nat)))) 80 (upd ((upA w 79 (upd (w.2.2.1 79) (Q 83) (I (rkK (K y) : Nat)))).2.2.1 80) (Q 83) (I (y : Nat)))) y Q sc := ⟨PRS_x hX.1 (fun _ _ => rfl) (fun k hk => by rw [upA_no (by omega), upA_no (by omega)]) hX.1.2.1.1, hX.2⟩
  generalize upA (upA w 79 (upd (w.2.2.1 79) (Q 83) (I (rkK (K y) : Nat)))) 80 (upd ((upA w 79 (upd (w.2.2.1 79) (Q 83) (I (rkK (K y) : Nat)))).2.2.1 80) (Q 83) (I (y : Nat))) = V at hQ r79 r80 hX1
  have V83 := (hX1.2 83 (by decide)).1
  have e269 : ∀ (U : MS) (QU : Nat → Nat), XRS w0 T U y QU sc → QU 83 = Q 83 → (∀ M u, XRS w0 T u (y + 1) (qst QU 83 (Q 83 + 1)) sc → u.2 = U.2 → PP RR A' ((kg_M_worked N S M).2 u v1)) → PP RR A' (kb_M_worked_269 N S (kg_M_worked N S M) U v1 v2 1 (I (rkK (K y) : Nat))) := fun U QU hU qU hh => by
    unfold kb_M_worked_269
    have U83 : U.1 83 = I (Q 83 : Nat) := by have := (hU.2 83 (by decide)).1; rw [qU] at this; exact this
    have e0 : PP RR A' (kb_M_worked_292 N S (kg_M_worked N S M) U v1 v2 1) := ps_292 c hU hy U83 hp3 hh
    refine r_br (fun _ => e0) (fun _ => r_br (fun _ => r_rul (fun v hv => ?_)) (fun _ => e0))
    exact ps_292 c (RUL_x hv hU) hy (by rw [hv.1 83 (by decide) (by decide)]; exact U83) hp3 (fun M u h1 h2 => hh M u h1 (h2.trans hv.2))
  rw [show (3 : Int32) = I ((3 : Nat) : Int) from rfl, decI (by omega) (by omega) (by omega) (by omega)]
  by_cases z3 : 3 ≤ rkK (K y)
  · rw [decide_eq_true (by omega), br_tq]
    refine e269 V Q hX1 rfl (fun M u h1 h2 => h M u (Or.inl ⟨z3, h1, ?_, ?_, ?_, hp3⟩))
    · exact QRR_e hQ (by rw [h2]) (by rw [h2])
    · rw [show u.2.2.1 = V.2.2.1 by rw [h2]]; exact r79
    · rw [show u.2.2.1 = V.2.2.1 by rw [h2]]; exact r80
  · rw [decide_eq_false (by omega), br_fq]
    have k616 : K y = 6 ∨ K y = 16 := by
      have : ∀ k, k < 46 → 1 ≤ rkK k → ¬ 3 ≤ rkK k → k = 6 ∨ k = 16 := by decide
      exact this _ k46 h1 z3
    have e243 : ∀ t3 : Int32, vp_nar .byte (t3.toInt8.toInt32) = t3 → t3.toInt = (if K y = 6 then 9 else 10) → PP RR A' (kb_M_worked_243 N S (kg_M_worked N S M) V v1 v2 1 (I (rkK (K y) : Nat)) 81 (V.1 83) t3) := fun t3 b3 ht3 => by
      unfold kb_M_worked_243
      obtain ⟨n1, n2⟩ := XRS_q hX1
      rw [hX1.1.2.1.1, V83]
      refine r_nod n1 n2 b3 (nsh (by omega)) (fun h16 => ?_)
      have d0 : NOD V (nwD V (Q 32) t3 (I (y : Nat))) (Q 32) := NOD_0 n1
      obtain ⟨d1, d2, d3, d4, d5, d6, d7, d8⟩ := nwD_at (w := V) (i := Q 32) (k := t3) (t := I (y : Nat))
      have hX2 : XRS w0 T (nwD V (Q 32) t3 (I (y : Nat))) y (qst Q 32 (Q 32 + 1)) sc := XRS_n hX1 d0.1 (fun k hk => funext (fun j => d0.2.2.1 k j (by omega))) (by rw [nwD_i (by decide)]; exact hX1.1.2.1.1) hX1.1.2.1.2 d0.2.1 (by omega)
      have hQ2 : QRR Q w (nwD V (Q 32) t3 (I (y : Nat))) := QRR_D hQ (Nat.le_refl _)
      have d9 : ∀ k, k = 79 ∨ k = 80 → (nwD V (Q 32) t3 (I (y : Nat))).2.2.1 k = V.2.2.1 k := fun k hk => nwD_r (by omega)
      generalize nwD V (Q 32) t3 (I (y : Nat)) = U at d1 d2 d3 d4 d5 d6 d7 d8 d9 hX2 hQ2
      rw [i_nt2 (p := Q 83) (by omega)]
      refine r_ck (fun _ => r_ck (fun _ => r_lt ?_))
      have f83 : (upA U 81 (upd (U.2.2.1 81) (Q 83) (I (Q 32 : Nat)))).1 83 = I (Q 83 : Nat) := by
        have := (hX2.2 83 (by decide)).1
        rw [qst_no (by decide)] at this
        exact this
      obtain ⟨e, t, rfl⟩ := PRS_ne hX.1
      have rn := hX2.1.2.2.2.1
      have tl : t.length + 1 ≤ 27 := rn.2.1.2
      have f65 : (upA U 81 (upd (U.2.2.1 81) (Q 83) (I (Q 32 : Nat)))).1 65 = I (t.length : Nat) := rn.1
      have f60 : (upA U 81 (upd (U.2.2.1 81) (Q 83) (I (Q 32 : Nat)))).2.2.1 60 t.length = I (e.1.length : Nat) := by
        rw [upA_no (by decide)]; exact rn.2.2.1.1.1
      rw [f83, f65, i_nt2 (p := Q 83) (by omega), i_nt2 (p := t.length) (by omega), f60]
      refine r_ck (fun _ => r_ck (fun _ => r_lt ?_))
      have rr : ∀ k, k ≠ 81 → k ≠ 82 → (upA (upA U 81 (upd (U.2.2.1 81) (Q 83) (I (Q 32 : Nat)))) 82 (upd ((upA U 81 (upd (U.2.2.1 81) (Q 83) (I (Q 32 : Nat)))).2.2.1 82) (Q 83) (I (e.1.length : Nat)))).2.2.1 k = U.2.2.1 k := fun k h1 h2 => by rw [upA_no h2, upA_no h1]
      have r81 : (upA (upA U 81 (upd (U.2.2.1 81) (Q 83) (I (Q 32 : Nat)))) 82 (upd ((upA U 81 (upd (U.2.2.1 81) (Q 83) (I (Q 32 : Nat)))).2.2.1 82) (Q 83) (I (e.1.length : Nat)))).2.2.1 81 (Q 83) = I (Q 32 : Nat) := by rw [upA_no (by decide), upA_at, upd_at]
      have r82 : (upA (upA U 81 (upd (U.2.2.1 81) (Q 83) (I (Q 32 : Nat)))) 82 (upd ((upA U 81 (upd (U.2.2.1 81) (Q 83) (I (Q 32 : Nat)))).2.2.1 82) (Q 83) (I (e.1.length : Nat)))).2.2.1 82 (Q 83) = I (e.1.length : Nat) := by rw [upA_at, upd_at]
      have hQ3 : QRR Q w (upA (upA U 81 (upd (U.2.2.1 81) (Q 83) (I (Q 32 : Nat)))) 82 (upd ((upA U 81 (upd (U.2.2.1 81) (Q 83) (I (Q 32 : Nat)))).2.2.1 82) (Q 83) (I (e.1.length : Nat)))) := QRR_A (QRR_A hQ2 (by decide) (Nat.le_refl _)) (by decide) (Nat.le_refl _)
      have hX3 : XRS w0 T (upA (upA U 81 (upd (U.2.2.1 81) (Q 83) (I (Q 32 : Nat)))) 82 (upd ((upA U 81 (upd (U.2.2.1 81) (Q 83) (I (Q 32 : Nat)))).2.2.1 82) (Q 83) (I (e.1.length : Nat)))) y (qst Q 32 (Q 32 + 1)) (e :: t) := ⟨PRS_x hX2.1 (fun _ _ => rfl) (fun k hk => rr k (by omega) (by omega)) hX2.1.2.1.1, hX2.2⟩
      generalize upA (upA U 81 (upd (U.2.2.1 81) (Q 83) (I (Q 32 : Nat)))) 82 (upd ((upA U 81 (upd (U.2.2.1 81) (Q 83) (I (Q 32 : Nat)))).2.2.1 82) (Q 83) (I (e.1.length : Nat))) = X at rr r81 r82 hQ3 hX3
      refine e269 X (qst Q 32 (Q 32 + 1)) hX3 (qst_no (by decide)) (fun M u h1 h2 => h M u (Or.inr ⟨k616, ⟨h1, QRR_e hQ3 (by rw [h2]) (by rw [h2]), ?_, ?_, hp3⟩, ?_, ?_, ?_, ?_, h16⟩))
      · rw [show u.2.2.1 = X.2.2.1 by rw [h2], rr 79 (by decide) (by decide), d9 79 (Or.inl rfl)]; exact r79
      · rw [show u.2.2.1 = X.2.2.1 by rw [h2], rr 80 (by decide) (by decide), d9 80 (Or.inr rfl)]; exact r80
      · rw [show u.2.2.1 = X.2.2.1 by rw [h2]]; exact r81
      · rw [show u.2.2.1 = X.2.2.1 by rw [h2]]; exact r82
      · show (u.2.2.1 23 (Q 32)).toInt = _
        rw [show u.2.2.1 = X.2.2.1 by rw [h2], rr 23 (by decide) (by decide), d1]; exact ht3
      · show (u.2.2.1 28 (Q 32)).toInt = _
        rw [show u.2.2.1 = X.2.2.1 by rw [h2], rr 28 (by decide) (by decide), d6]; rfl
    rcases k616 with z | z
    · rw [decide_eq_false (by rw [z]; decide), br_fq]
      exact e243 9 rfl (by rw [if_pos z]; rfl)
    · rw [decide_eq_true (by rw [z]; decide), br_tq]
      exact e243 10 rfl (by rw [if_neg (by omega)]; rfl)
end
end
section
set_option maxRecDepth 100000
section
variable {α β : Type} {m0 w0 m w m2 w2 m3 w3 v u w1 mS wS : MS} {K nm Nk W W2 : Nat → Nat} {N T D d o a a0 b b0 c cm cm0 cm2 cm3 q q0 r s lo lo0 mid hi i j f f2 n k kk p p2 σ tk x xa xb M m1 lv y : Nat} {Q Q0 Q2 Q3 Q4 : Nat → Nat} {sc sc0 sc2 sc3 t t2 : SCT} {e e2 : List Nat × List Nat × Nat} {g lst l2 : Bool} {L L1 L2 S : List Nat} {idc fof cvr : Int → Int → Int} {z : Unit} {rt v1 v2 v3 v4 v5 : Int32} {fc : MS → Unit → Option (MS × α)} {RR : MS → α → MS → β → Prop} {F : MS → Unit → Option (MS × β)}
theorem pre_getd {a b : List Nat} {i y : Nat} (h : a <+: b) (e : a[i]? = some y) : b[i]? = some y := by
  obtain ⟨c, rfl⟩ := h
  rw [List.getElem?_append_left]
  · exact e
  · exact (List.getElem?_eq_some_iff.mp e).1
theorem RNl_60 {x : Int32} : ∀ {t : SCT}, RNl w t → t.length ≤ n → RNl (upA w 60 (upd (w.2.2.1 60) n x)) t
  | [], _, _ => trivial
  | e :: t, h, hn => by
    have hn : t.length + 1 ≤ n := hn
    obtain ⟨⟨r1, r2, r3, r4, r5⟩, r6⟩ := h
    exact ⟨⟨by rw [upA_at, upd_no (by omega)]; exact r1, fun k x hk => by rw [upA_no (by decide)]; exact r2 k x hk, by rw [upA_no (by decide)]; exact r3, fun k x hk => by rw [upA_no (by decide)]; exact r4 k x hk, by rw [upA_no (by decide)]; exact r5⟩, RNl_60 r6 (by omega)⟩
theorem fg_pp (c : CTZ m0 w0 K T nm Nk) (h : XTR m0 w0 K T nm Nk fof cvr lst g L lo p a b cm cm2 q r Q Q2 (e :: t) sc2 m w m2 w2)
    (hend : ∀ m3 w3 b' Q3 sc3, XTR m0 w0 K T nm Nk fof cvr lst g L lo p a b' cm cm2 q r Q Q3 (e :: t) sc3 m w m3 w3 → (hdS sc3).1 = e.1 → (Q3 = Q2 ∨ Q3 = qst Q2 32 (Q2 32 + 1)) → QRR Q2 w2 w3 → b ≤ b' → (∀ k, k < 23 ∨ (31 < k ∧ k ≠ 60) → w3.2.2.1 k = w2.2.2.1 k) → PP RR (fc m3 ()) (F w3 ())) : PP RR (bnd (jm_Cm_forget N m2 (I (tot (e :: t) : Nat))) fc) (bnd (fm_M_unbind N w2 (I (e.1.length : Nat))) F) := by
  have h' := h
  obtain ⟨a1, a2, a3, a4, ⟨W, a5, a6⟩, a7, a8, a9, a10, a11⟩ := h
  have nx := (a5.2 rfl).2
  cases sc2 with
  | nil => exact nx.elim
  | cons e2 t2 =>
  obtain ⟨n1, n2, n3⟩ := nx
  have hR := a3.1
  have rn := hR.1.2.2.2.1
  have tl : t2.length + 1 ≤ 27 := rn.2.1.2
  have t4 := c.2.1.1.1
  have le := n1.length_le
  have bt : tot t2 = tot t := (BDs_len n2).2
  have e706 : m2.1 706 = I (tot (e2 :: t2) : Nat) := a2.1.2.1.2.2.1
  have t4k : tot (e2 :: t2) ≤ 4000 := a2.1.2.1.2.2.2.1
  have et : tot (e2 :: t2) = tot t2 + e2.1.length := rfl
  have et0 : tot (e :: t) = tot t + e.1.length := rfl
  have h60 : w2.2.2.1 60 t2.length = I (e2.1.length : Nat) := rn.2.2.1.1.1
  have h65 : w2.1 65 = I (t2.length : Nat) := rn.1
  have l2 := nd_len 1400 _ rn.2.2.2.1.1 rn.2.2.2.1.2.1
  show PP RR (bnd (jb_Cm_forget_0 N () m2 (I (tot (e :: t) : Nat))) fc) (bnd (fb_M_unbind_0 N () w2 (I (e.1.length : Nat))) F)
  unfold jb_Cm_forget_0 jb_Cm_forget_30 fb_M_unbind_0 fb_M_unbind_41
  rw [e706, h65, i_nt2 (p := t2.length) (by omega), h60, decI (by omega) (by omega) (by omega) (by omega), decI (by omega) (by omega) (by omega) (by omega), bnd_ck]
  refine r_ck (fun _ => ?_)
  by_cases z : e2.1.length ≤ e.1.length
  · 
    have ee : e2.1 = e.1 := (n1.eq_of_length (by omega)).symm
    rw [decide_eq_true (by omega), decide_eq_true (by omega), br_tq, br_tq, lt_e, bnd_s, bnd_s]
    have : upI m2 706 (I (tot (e :: t) : Nat)) = m2 := upI_id (by rw [e706, et, et0, bt, ee])
    rw [this]
    exact hend m2 w2 b Q2 (e2 :: t2) h' ee (Or.inl rfl) QRR_rf (Nat.le_refl _) (fun _ _ => rfl)
  · rw [decide_eq_false (by omega), decide_eq_false (by omega), br_fq, br_fq]
    have s1 : ∀ x, (ptc m2 b x).1 706 - I (tot (e :: t) : Nat) = I ((e2.1.length - e.1.length : Nat) : Int) := fun x => by
      rw [ptc_i (by decide), e706, I_sub]
      congr 1
      omega
    rw [bnd_as2]
    refine l_put a2.1.2.2.1.1 a2.1.2.2.1.2.2 (fun ha => ?_)
    have c1 := XCS_put (x := 16) a2 ha
    rw [s1, bnd_as2]
    refine l_put c1.1.2.2.1.1 c1.1.2.2.1.2.2 (fun ha1 => ?_)
    have c2 := XCS_put (x := I ((e2.1.length - e.1.length : Nat) : Int)) c1 ha1
    rw [lt_e, bnd_s, bnd_as2]
    have em : ptc (ptc m2 b 16) (b + 1) (I ((e2.1.length - e.1.length : Nat) : Int)) = ptcs m2 b [16, I ((e2.1.length - e.1.length : Nat) : Int)] := rfl
    rw [em] at c2 ⊢
    obtain ⟨q1, q2⟩ := XRS_q hR
    rw [hR.1.2.1.1]
    have pT : p ≤ T := hR.1.2.1.2
    refine r_nod q1 q2 rfl (nsh (by omega)) (fun h16 => ?_)
    have d0 : NOD w2 (nwD w2 (Q2 32) 18 (I (p : Nat))) (Q2 32) := NOD_0 q1
    obtain ⟨d1, d2, d3, d4, d5, d6, d7, d8⟩ := nwD_at (w := w2) (i := Q2 32) (k := 18) (t := I (p : Nat))
    have d9 : (nwD w2 (Q2 32) 18 (I (p : Nat))).1 69 = I (p : Nat) := by rw [nwD_i (by decide)]; exact hR.1.2.1.1
    generalize nwD w2 (Q2 32) 18 (I (p : Nat)) = U at d0 d1 d2 d3 d4 d5 d6 d7 d8 d9
    rw [i_nt2 (p := Q2 32) (by omega), bnd_ck]
    refine r_ck (fun _ => ?_)
    rw [lt_e, bnd_ck]
    refine r_ck (fun _ => ?_)
    have hN : NOD w2 (upA U 25 (upd (U.2.2.1 25) (Q2 32) (I (e.1.length : Nat)))) (Q2 32) := NOD_A d0 (by decide)
    have v23 : A (upA U 25 (upd (U.2.2.1 25) (Q2 32) (I (e.1.length : Nat)))) 23 (Q2 32) = 18 := by
      show ((upA U 25 _).2.2.1 23 (Q2 32)).toInt = 18
      rw [upA_no (by decide), d1]; rfl
    have v25 : A (upA U 25 (upd (U.2.2.1 25) (Q2 32) (I (e.1.length : Nat)))) 25 (Q2 32) = ((e.1.length : Nat) : Int) := by
      show ((upA U 25 _).2.2.1 25 (Q2 32)).toInt = _
      rw [upA_at, upd_at]
      exact I_ti (by omega) (by omega)
    have v69 : (upA U 25 (upd (U.2.2.1 25) (Q2 32) (I (e.1.length : Nat)))).1 69 = I (p : Nat) := d9
    generalize upA U 25 (upd (U.2.2.1 25) (Q2 32) (I (e.1.length : Nat))) = V at hN v23 v25 v69
    have hX := XRS_n hR hN.1 (fun k hk => funext (fun j => hN.2.2.1 k j (by omega))) v69 pT hN.2.1 (by omega)
    have V65 : V.1 65 = I (t2.length : Nat) := hX.1.2.2.2.1.1
    rw [V65, i_nt2 (p := t2.length) (by omega), lt_e, bnd_s]
    have tk : e2.1.take e.1.length = e.1 := by
      obtain ⟨l, hl⟩ := n1
      rw [← hl, List.take_left]
    have ok := rn.2.2.2
    have rnV := hX.1.2.2.2.1
    have okc : SOK ((e.1, e2.2) :: t2) := by
      obtain ⟨⟨o1, o2, o3, o4, o5, o6, o7⟩, o8⟩ := ok
      exact ⟨⟨o1.sublist n1.sublist, fun x hx => o2 x (n1.subset hx), o3, by show e.1.length ≤ e2.2.2; omega, o5, o6, o7⟩, o8⟩
    have rnc : RNs (upA V 60 (upd (V.2.2.1 60) t2.length (I (e.1.length : Nat)))) ((e.1, e2.2) :: t2) := by
      obtain ⟨⟨r1, r2, r3, r4, r5⟩, r6⟩ := rnV.2.2.1
      refine ⟨rnV.1, rnV.2.1, ⟨⟨by rw [upA_at, upd_at], fun k x hk => ?_, by rw [upA_no (by decide)]; exact r3, fun k x hk => by rw [upA_no (by decide)]; exact r4 k x hk, by rw [upA_no (by decide)]; exact r5⟩, ?_⟩, okc⟩
      · rw [upA_no (by decide)]
        exact r2 k x (pre_getd n1 hk)
      · exact RNl_60 r6 (Nat.le_refl _)
    have hfc : HFl (upA V 60 (upd (V.2.2.1 60) t2.length (I (e.1.length : Nat)))) ((e.1, e2.2) :: t2) := by
      have := hX.1.2.2.2.2.1
      exact ⟨fun k x hk => by rw [upA_no (by decide)]; exact this.1 k x hk, HFl_fr ok.2 this.2 (fun j _ => by rw [upA_no (by decide)])⟩
    have hXc : XRS w0 T (upA V 60 (upd (V.2.2.1 60) t2.length (I (e.1.length : Nat)))) p (qst Q2 32 (Q2 32 + 1)) ((e.1, e2.2) :: t2) := by
      obtain ⟨x1, x2, x3, x4, x5, x6⟩ := hX.1
      refine ⟨⟨⟨x1.1, fun k hk => ?_⟩, x2, x3, rnc, hfc, x6⟩, hX.2⟩
      have : k < 23 := by unfold TRW at hk; simp only [List.mem_cons, List.not_mem_nil, or_false] at hk; omega
      rw [upA_no (by omega)]; exact x1.2 k hk
    have hQ : QRR Q2 w2 (upA V 60 (upd (V.2.2.1 60) t2.length (I (e.1.length : Nat)))) := QRR_S (QRR_N hN (Nat.le_refl _)) (by omega)
    have wr : ∀ k, k < 23 ∨ (31 < k ∧ k ≠ 60) → (upA V 60 (upd (V.2.2.1 60) t2.length (I (e.1.length : Nat)))).2.2.1 k = w2.2.2.1 k := fun k hk => by
      rw [upA_no (by omega)]
      exact funext (fun j => hN.2.2.1 k j (by omega))
    have vr : ∀ k i, 23 ≤ k → k ≤ 58 → A (upA V 60 (upd (V.2.2.1 60) t2.length (I (e.1.length : Nat)))) k i = A V k i := fun k i h1 h2 => by
      show ((upA V 60 _).2.2.1 k i).toInt = _
      rw [upA_no (by omega)]; rfl
    generalize upA V 60 (upd (V.2.2.1 60) t2.length (I (e.1.length : Nat))) = X at hXc hQ vr wr
    have cc : XCS m0 nm (upI (ptcs m2 b [16, I ((e2.1.length - e.1.length : Nat) : Int)]) 706 (I (tot (e :: t) : Nat))) (b + 2) cm2 ((e.1, e2.2) :: t2) g := by
      obtain ⟨⟨p1, p2, p3, p4, p5, p6, p7⟩, p8⟩ := c2
      have tc : tot ((e.1, e2.2) :: t2) = tot (e :: t) := by show tot t2 + e.1.length = tot t + e.1.length; rw [bt]
      obtain ⟨q1, q2, q3⟩ := p2.2.2.2.2
      refine ⟨⟨⟨fun k hk => by rw [upI_ne (by omega)]; exact p1.1 k hk, p1.2⟩, ⟨by rw [upI_ne (by decide)]; exact p2.1, p2.2.1, by rw [upI_at, tc], by rw [tc]; omega, ⟨q1, fun k x hk => q2 k x (pre_getd n1 hk), CNl_fr q3 rfl (fun _ _ => rfl)⟩⟩, ⟨by rw [upI_ne (by decide)]; exact p3.1, p3.2⟩, by rw [upI_ne (by decide)]; exact p4, p5, p6, ?_⟩, by rw [upI_ne (by decide)]; exact p8⟩
      have p7 : e2.1.length ≤ cm2 := p7
      show e.1.length ≤ cm2
      omega
    have f1 : XFC m (upI (ptcs m2 b [16, I ((e2.1.length - e.1.length : Nat) : Int)]) 706 (I (tot (e :: t) : Nat))) a q r ((e :: t).length - 1) := by
      have := XFC_ps (l := [16, I ((e2.1.length - e.1.length : Nat) : Int)]) a7 a1.2.1
      exact ⟨fun k k1 k2 => by rw [upI_ne k2]; exact this.1 k k1 k2, this.2⟩
    have oN : Onm nm ((e.1, e2.2) :: t2) = e.1.map nm := rfl
    have oN2 : Onm nm (e2 :: t2) = e2.1.map nm := rfl
    refine hend _ X (b + 2) (qst Q2 32 (Q2 32 + 1)) ((e.1, e2.2) :: t2) ⟨⟨a1.1, by omega, a1.2.2⟩, cc, ⟨hXc, by rw [qst_no (by decide)]; exact a3.2⟩, ?_, ⟨W, ⟨?_, fun _ => ⟨(a5.2 rfl).1, List.prefix_rfl, n2, fun x hx => Or.inl hx⟩⟩, ?_⟩, f1, ⟨QRR_tr a8.1 hQ a8.2.1, QLE_st a8.2.1 (by have := a8.2.1 32 (by decide); omega), by rw [qst_no (by decide), qst_no (by decide), qst_no (by decide)]; exact a8.2.2⟩, fun _ => rfl, fun n hn => ?_, fun C P R J H fi hx => ?_⟩ rfl (Or.inr rfl) hQ (by omega) wr
    · show tot t2 + e.1.length ≤ _
      have : tot (e :: t) = tot t + e.1.length := rfl
      omega
    · exact ⟨a5.1.1, a5.1.2⟩
    · show (ptcs m2 b _).2.2.1 42 = _
      rw [ptcs_r (by decide)]; exact a6
    · have := a10 n hn
      rw [qst_at]; omega
    · have q32 : Q 32 ≤ Q2 32 := a8.2.1 32 (by decide)
      have fi2 : FNd w0 fof cvr C P R J m2 w2 a b q r Q Q2 lst L := by
        refine FIN_sub fi ⟨Nat.le_refl _, by omega⟩ ⟨Nat.le_refl _, Nat.le_refl _⟩ QLE_rf (QLE_st QLE_rf (by omega)) (fun j _ z => ?_) (fun k u z1 z2 _ _ => ?_) (SAM_q hQ) (fun n z1 z2 => ?_)
        · show (ptcs m2 b _).2.2.1 23 j = _
          exact ptcs_o (Or.inl z)
        · show (ptcs m2 b _).2.2.1 k u = _
          rw [ptcs_r (by omega)]
        · have e30 : A X 30 n = A w2 30 n := congrArg Int32.toInt (hQ.2.1 30 n (by decide) z2)
          rw [e30]
      have hx2 : HNX nm (e2 :: t2) cm2 H := hx
      obtain ⟨g1, g2⟩ := a11 C P R J H fi2 hx2
      refine ⟨g1, fun y hy hr => g2 y hy ?_⟩
      have gc := fi.1
      have gc2 : AGC C (ptcs m2 b [16, I ((e2.1.length - e.1.length : Nat) : Int)]) b (b + 2) := fun k k1 k2 => gc k (by omega) k2
      have rR : ∀ k, 23 ≤ k ∧ k ≤ 31 → k ≠ 27 ∧ k ≠ 29 ∧ k ≠ 30 → R k (Q2 32) = A V k (Q2 32) := fun k k1 k2 => (FIN_R fi k1 k2 ⟨q32, by rw [qst_at]; omega⟩).trans (vr k _ (by omega) (by omega))
      have c0 := C_0 gc2 (show b < b + 2 by omega)
      have c1' : C (b + 1) = (I ((e2.1.length - e.1.length : Nat) : Int)).toInt := C_at (k := 1) gc2 rfl (show b + 1 < b + 2 by omega)
      obtain ⟨b1, b2⟩ := XB c.2.2.1 a2 hR hx2 h16
      obtain ⟨d, hd⟩ := hr
      rw [qst_at, oN] at hd
      rw [oN2] at b1 b2 ⊢
      refine cr_1 b1 b2 ⟨d, Or.inr (Or.inr (Or.inr (Or.inr (Or.inr (Or.inr (Or.inr (Or.inr (Or.inr (Or.inr (Or.inr (Or.inr (Or.inr (Or.inr (Or.inr (Or.inr (Or.inr (Or.inr (Or.inl ⟨(rR 23 (by decide) (by decide)).trans v23, c0, e.1.length, (rR 25 (by decide) (by decide)).trans v25, ?_, ?_, ?_⟩))))))))))))))))))⟩
      · rw [List.length_map]; omega
      · rw [c1', I_ti (by omega) (by omega), List.length_map]
      · rw [← List.map_take, tk]; exact hd
end
end
section
set_option maxRecDepth 100000
def opK (k : Nat) : Int32 := if k = 10 ∨ k = 18 ∨ k = 33 ∨ k = 34 ∨ k = 35 then 9 else if k = 43 ∨ k = 44 then 10 else 8
def svT (k : Nat) : Int32 := if k < 20 then 100 + I (svK k : Nat) else I (svK k : Nat)
section
variable {α β : Type} {m0 w0 m w m2 w2 m3 w3 v u w1 mS wS : MS} {K nm Nk W W2 : Nat → Nat} {N T D d o a a0 b b0 c cm cm0 cm2 cm3 q q0 r s lo lo0 mid hi i j f f2 n k kk p p2 σ tk x xa xb M m1 lv y t tok : Nat} {Q Q0 Q2 Q3 Q4 : Nat → Nat} {sc sc0 sc2 sc3 : SCT} {g lst l2 : Bool} {L L1 L2 S : List Nat} {idc fof cvr : Int → Int → Int} {z : Unit} {rt v1 v2 v3 v4 v5 r0 : Int32} {fc : MS → Unit → Option (MS × Unit)} {RR : MS → Unit → MS → Int32 → Prop} {A' : Option (MS × Unit)} {B' : Option (MS × Int32)} {F : MS → Int32 → Option (MS × Int32)}
theorem kin3 : ∀ k, k < 46 → 3 ≤ rkK k → k = 10 ∨ k = 18 ∨ k = 31 ∨ k = 32 ∨ k = 33 ∨ k = 34 ∨ k = 35 ∨ k = 39 ∨ k = 40 ∨ k = 41 ∨ k = 42 ∨ k = 43 ∨ k = 44 := by decide
theorem tws_k : ∀ k, k < 46 → 3 ≤ rkK k → TWs (svT k).toInt (opK k).toInt ((k : Nat) : Int) := fun k h1 h2 => by
  rcases kin3 k h1 h2 with rfl | rfl | rfl | rfl | rfl | rfl | rfl | rfl | rfl | rfl | rfl | rfl | rfl <;> (unfold TWs; decide)
theorem join_l (hC : XCS m0 nm m a cm sc g) (hk : k < 46) (h3 : 3 ≤ rkK k) (ht : tk ≤ 4002) (h : XCS m0 nm (ptcs m a [opK k, I (k : Nat)]) (a + 2) cm sc g → PP RR (fc (ptcs m a [opK k, I (k : Nat)]) ()) B') : PP RR (bnd (jm_Cm_joining N m (I (k : Nat)) (I (tk : Nat))) fc) B' := by
  have two : ∀ x : Int32, x = opK k → PP RR (bnd (bnd (jm_Co_put N m x) (fun u5 _ => jb_Cm_joining_106 N () u5 (I (k : Nat)))) fc) B' := fun x hx => by
    rw [bnd_as2]
    refine l_put hC.1.2.2.1.1 hC.1.2.2.1.2.2 (fun ha => ?_)
    have h1 := XCS_put (x := x) hC ha
    unfold jb_Cm_joining_106
    rw [bnd_as2]
    refine l_put h1.1.2.2.1.1 h1.1.2.2.1.2.2 (fun ha1 => ?_)
    have h2 := XCS_put (x := I (k : Nat)) h1 ha1
    rw [bnd_s]
    subst hx
    exact h h2
  unfold jm_Cm_joining jb_Cm_joining_0
  rcases kin3 k hk h3 with rfl | rfl | rfl | rfl | rfl | rfl | rfl | rfl | rfl | rfl | rfl | rfl | rfl
  · rw [show decide (I ((10 : Nat) : Int) = (10 : Int32)) = true from rfl, br_tq]
    exact two 9 rfl
  · rw [show decide (I ((18 : Nat) : Int) = (10 : Int32)) = false from rfl, br_fq, show decide (I ((18 : Nat) : Int) = (18 : Int32)) = true from rfl, br_tq]
    exact two 9 rfl
  · rw [show decide (I ((31 : Nat) : Int) = (10 : Int32)) = false from rfl, br_fq, show decide (I ((31 : Nat) : Int) = (18 : Int32)) = false from rfl, br_fq, show decide (I ((31 : Nat) : Int) = (33 : Int32)) = false from rfl, br_fq, show decide (I ((31 : Nat) : Int) = (34 : Int32)) = false from rfl, br_fq, show decide (I ((31 : Nat) : Int) = (35 : Int32)) = false from rfl, br_fq, show decide (I ((31 : Nat) : Int) = (43 : Int32)) = false from rfl, br_fq, show decide (I ((31 : Nat) : Int) = (44 : Int32)) = false from rfl, br_fq]
    exact two 8 rfl
  · rw [show decide (I ((32 : Nat) : Int) = (10 : Int32)) = false from rfl, br_fq, show decide (I ((32 : Nat) : Int) = (18 : Int32)) = false from rfl, br_fq, show decide (I ((32 : Nat) : Int) = (33 : Int32)) = false from rfl, br_fq, show decide (I ((32 : Nat) : Int) = (34 : Int32)) = false from rfl, br_fq, show decide (I ((32 : Nat) : Int) = (35 : Int32)) = false from rfl, br_fq, show decide (I ((32 : Nat) : Int) = (43 : Int32)) = false from rfl, br_fq, show decide (I ((32 : Nat) : Int) = (44 : Int32)) = false from rfl, br_fq]
    exact two 8 rfl
  · rw [show decide (I ((33 : Nat) : Int) = (10 : Int32)) = false from rfl, br_fq, show decide (I ((33 : Nat) : Int) = (18 : Int32)) = false from rfl, br_fq, show decide (I ((33 : Nat) : Int) = (33 : Int32)) = true from rfl, br_tq]
    exact two 9 rfl
  · rw [show decide (I ((34 : Nat) : Int) = (10 : Int32)) = false from rfl, br_fq, show decide (I ((34 : Nat) : Int) = (18 : Int32)) = false from rfl, br_fq, show decide (I ((34 : Nat) : Int) = (33 : Int32)) = false from rfl, br_fq, show decide (I ((34 : Nat) : Int) = (34 : Int32)) = true from rfl, br_tq]
    exact two 9 rfl
  · rw [show decide (I ((35 : Nat) : Int) = (10 : Int32)) = false from rfl, br_fq, show decide (I ((35 : Nat) : Int) = (18 : Int32)) = false from rfl, br_fq, show decide (I ((35 : Nat) : Int) = (33 : Int32)) = false from rfl, br_fq, show decide (I ((35 : Nat) : Int) = (34 : Int32)) = false from rfl, br_fq, show decide (I ((35 : Nat) : Int) = (35 : Int32)) = true from rfl, br_tq]
    exact two 9 rfl
  · rw [show decide (I ((39 : Nat) : Int) = (10 : Int32)) = false from rfl, br_fq, show decide (I ((39 : Nat) : Int) = (18 : Int32)) = false from rfl, br_fq, show decide (I ((39 : Nat) : Int) = (33 : Int32)) = false from rfl, br_fq, show decide (I ((39 : Nat) : Int) = (34 : Int32)) = false from rfl, br_fq, show decide (I ((39 : Nat) : Int) = (35 : Int32)) = false from rfl, br_fq, show decide (I ((39 : Nat) : Int) = (43 : Int32)) = false from rfl, br_fq, show decide (I ((39 : Nat) : Int) = (44 : Int32)) = false from rfl, br_fq]
    exact two 8 rfl
  · rw [show decide (I ((40 : Nat) : Int) = (10 : Int32)) = false from rfl, br_fq, show decide (I ((40 : Nat) : Int) = (18 : Int32)) = false from rfl, br_fq, show decide (I ((40 : Nat) : Int) = (33 : Int32)) = false from rfl, br_fq, show decide (I ((40 : Nat) : Int) = (34 : Int32)) = false from rfl, br_fq, show decide (I ((40 : Nat) : Int) = (35 : Int32)) = false from rfl, br_fq, show decide (I ((40 : Nat) : Int) = (43 : Int32)) = false from rfl, br_fq, show decide (I ((40 : Nat) : Int) = (44 : Int32)) = false from rfl, br_fq]
    exact two 8 rfl
  · rw [show decide (I ((41 : Nat) : Int) = (10 : Int32)) = false from rfl, br_fq, show decide (I ((41 : Nat) : Int) = (18 : Int32)) = false from rfl, br_fq, show decide (I ((41 : Nat) : Int) = (33 : Int32)) = false from rfl, br_fq, show decide (I ((41 : Nat) : Int) = (34 : Int32)) = false from rfl, br_fq, show decide (I ((41 : Nat) : Int) = (35 : Int32)) = false from rfl, br_fq, show decide (I ((41 : Nat) : Int) = (43 : Int32)) = false from rfl, br_fq, show decide (I ((41 : Nat) : Int) = (44 : Int32)) = false from rfl, br_fq]
    exact two 8 rfl
  · rw [show decide (I ((42 : Nat) : Int) = (10 : Int32)) = false from rfl, br_fq, show decide (I ((42 : Nat) : Int) = (18 : Int32)) = false from rfl, br_fq, show decide (I ((42 : Nat) : Int) = (33 : Int32)) = false from rfl, br_fq, show decide (I ((42 : Nat) : Int) = (34 : Int32)) = false from rfl, br_fq, show decide (I ((42 : Nat) : Int) = (35 : Int32)) = false from rfl, br_fq, show decide (I ((42 : Nat) : Int) = (43 : Int32)) = false from rfl, br_fq, show decide (I ((42 : Nat) : Int) = (44 : Int32)) = false from rfl, br_fq]
    exact two 8 rfl
  · rw [show decide (I ((43 : Nat) : Int) = (10 : Int32)) = false from rfl, br_fq, show decide (I ((43 : Nat) : Int) = (18 : Int32)) = false from rfl, br_fq, show decide (I ((43 : Nat) : Int) = (33 : Int32)) = false from rfl, br_fq, show decide (I ((43 : Nat) : Int) = (34 : Int32)) = false from rfl, br_fq, show decide (I ((43 : Nat) : Int) = (35 : Int32)) = false from rfl, br_fq, show decide (I ((43 : Nat) : Int) = (43 : Int32)) = true from rfl, br_tq, bnd_as2]
    exact l_ntg (tk := tk) hC.2 rfl ht (fun _ => two 10 rfl)
  · rw [show decide (I ((44 : Nat) : Int) = (10 : Int32)) = false from rfl, br_fq, show decide (I ((44 : Nat) : Int) = (18 : Int32)) = false from rfl, br_fq, show decide (I ((44 : Nat) : Int) = (33 : Int32)) = false from rfl, br_fq, show decide (I ((44 : Nat) : Int) = (34 : Int32)) = false from rfl, br_fq, show decide (I ((44 : Nat) : Int) = (35 : Int32)) = false from rfl, br_fq, show decide (I ((44 : Nat) : Int) = (43 : Int32)) = false from rfl, br_fq, show decide (I ((44 : Nat) : Int) = (44 : Int32)) = true from rfl, br_tq, bnd_as2]
    exact l_ntg (tk := tk) hC.2 rfl ht (fun _ => two 10 rfl)
theorem red_t (hT : TWK w K T) (htk : tok ≤ T) (hp : p < 3000) (h83 : w.1 83 = I ((p + 1 : Nat) : Int)) (hb : b0 ≤ p) (h79 : w.2.2.1 79 p = I (rkK (K tok) : Nat)) (h80 : w.2.2.1 80 p = I (tok : Nat)) (hlv : lv ≤ 6) (h3 : 3 ≤ rkK (K tok)) (hc : lv < rkK (K tok) ∨ (rkK (K tok) = lv ∧ rkK (K tok) ≠ 3 ∧ rkK (K tok) ≠ 4)) (n1 : w.1 32 = I (i : Nat)) (n2 : i ≤ 24000) (hG : ∀ M' v, i < 16000 → NOD (upI w 83 (I (p : Nat))) v i → v.1 69 = w.1 69 → A v 23 i = 6 → A v 25 i = (svT (K tok)).toInt → A v 28 i = -1 → PP RR A' (bnd (gg_M_reduce N M' v (I (b0 : Nat)) (I (lv : Nat)) (I (i : Nat)) 1) F)) : PP RR A' (bnd (gg_M_reduce N M w (I (b0 : Nat)) (I (lv : Nat)) r0 1) F) := by
  have t4 := hT.1.1
  have k46 := hT.1.k46 htk
  have r6 := rk6 k46
  cases M with
  | zero => exact pp_nr
  | succ M =>
    show PP RR A' (bnd (fb_M_reduce_6 N (gg_M_reduce N M) w (I (b0 : Nat)) (I (lv : Nat)) r0 1) F)
    unfold fb_M_reduce_6
    rw [show decide ((1 : Int32) = 0) = false from rfl, br_fq, h83, decI (by omega) (by omega) (by omega) (by omega), decide_eq_false (by omega), br_fq, I_sn, bnd_ck]
    refine r_ck (fun _ => ?_)
    rw [bnd_lt]
    refine r_lt ?_
    rw [tnI (n := p) rfl (by omega), h79]
    have e56 : PP RR A' (bnd (fb_M_reduce_56 N (gg_M_reduce N M) w (I (b0 : Nat)) (I (lv : Nat)) r0 (I (rkK (K tok) : Nat))) F) := by
      unfold fb_M_reduce_56 fb_M_reduce_61
      rw [show decide ((1 : Int32) = 0) = false from rfl, br_fq, bnd_lt, h83, I_sn]
      refine r_lt ?_
      rw [I_dn (a := rkK (K tok)) (b := 7) (s := 7) (by omega) (by decide) rfl, decide_eq_false (by omega), br_fq, show (3 : Int32) = I ((3 : Nat) : Int) from rfl, decI (by omega) (by omega) (by omega) (by omega), decide_eq_true (by omega), br_tq, bnd_ck]
      refine r_ck (fun _ => ?_)
      have e83 : (upI w 83 (I (p : Nat))).1 83 = I (p : Nat) := upI_at
      have e80 : (upI w 83 (I (p : Nat))).2.2.1 80 p = I (tok : Nat) := h80
      have e69 : (upI w 83 (I (p : Nat))).1 69 = w.1 69 := upI_ne (by decide)
      have e32 : (upI w 83 (I (p : Nat))).1 32 = I (i : Nat) := by rw [upI_ne (by decide)]; exact n1
      have e6 : (upI w 83 (I (p : Nat))).2.2.1 6 tok = I (srK (K tok) : Nat) := hT.2.1 tok htk
      have kb : 5 ≤ K tok ∧ tok < T := by
        have z : ∀ k, k < 46 → 3 ≤ rkK k → 5 ≤ k ∧ 1 ≤ k ∧ k ≤ 44 := by decide
        have := z _ k46 h3
        exact ⟨this.1, hT.1.lt htk this.2.1 this.2.2⟩
      have e7 : (upI w 83 (I (p : Nat))).2.2.1 7 tok = I (svK (K tok) : Nat) := hT.2.2 tok kb.2 kb.1
      generalize upI w 83 (I (p : Nat)) = w9 at hG e83 e80 e69 e32 e6 e7 ⊢
      rw [bnd_as2, e83, tnI (n := p) rfl (by omega), e80]
      refine r_nod e32 n2 rfl (nsh (by omega)) (fun h16 => ?_)
      have d0 : NOD w9 (nwD w9 i 6 (I (tok : Nat))) i := NOD_0 e32
      obtain ⟨d1, d2, d3, d4, d5, d6, d7, d8⟩ := nwD_at (w := w9) (i := i) (k := 6) (t := I (tok : Nat))
      have f83 : (nwD w9 i 6 (I (tok : Nat))).1 83 = I (p : Nat) := by rw [nwD_i (by decide)]; exact e83
      have f69 : (nwD w9 i 6 (I (tok : Nat))).1 69 = w.1 69 := by rw [nwD_i (by decide)]; exact e69
      have f80 : (nwD w9 i 6 (I (tok : Nat))).2.2.1 80 p = I (tok : Nat) := by rw [nwD_r (by decide)]; exact e80
      have f6 : (nwD w9 i 6 (I (tok : Nat))).2.2.1 6 tok = I (srK (K tok) : Nat) := by rw [nwD_r (by decide)]; exact e6
      have f7 : (nwD w9 i 6 (I (tok : Nat))).2.2.1 7 tok = I (svK (K tok) : Nat) := by rw [nwD_r (by decide)]; exact e7
      generalize nwD w9 i 6 (I (tok : Nat)) = U at d0 d1 d2 d3 d4 d5 d6 d7 d8 f83 f69 f80 f6 f7
      rw [bnd_ck]
      refine r_ck (fun _ => ?_)
      rw [bnd_lt, f83, tnI (n := p) rfl (by omega), f80]
      refine r_lt ?_
      rw [i_nt (p := tok) (by omega), f6, bnd_ck]
      refine r_ck (fun _ => ?_)
      have go : ∀ x : Int32, x = svT (K tok) → PP RR A' (bnd (fb_M_reduce_254 N (gg_M_reduce N M) U (I (b0 : Nat)) (I (lv : Nat)) (I (i : Nat)) 1 25 (I (i : Nat)) x) F) := fun x hx => by
        unfold fb_M_reduce_254 fb_M_reduce_255
        rw [bnd_ck, bnd_ck]
        refine r_ck (fun _ => r_ck (fun _ => ?_))
        rw [bnd_lt, i_nt2 (p := i) (by omega)]
        refine r_lt ?_
        refine hG M _ h16 (NOD_A d0 (by decide)) f69 ?_ ?_ ?_
        · show ((upA U 25 _).2.2.1 23 i).toInt = 6
          rw [upA_no (by decide), d1]; rfl
        · show ((upA U 25 _).2.2.1 25 i).toInt = _
          rw [upA_at, upd_at, hx]
        · show ((upA U 25 _).2.2.1 28 i).toInt = _
          rw [upA_no (by decide), d6]; rfl
      have s3 : ∀ k, k < 46 → 5 ≤ k → (I (srK k : Nat) = I ((3 : Nat) : Int) ↔ k < 20) := fun k h1 h2 => (show (I (srK k : Nat) = I ((3 : Nat) : Int) ↔ 5 ≤ k ∧ k ≤ 19) from srK_3 k h1).trans (by omega)
      by_cases z : K tok < 20
      · rw [decide_eq_true ((s3 _ k46 kb.1).mpr z), br_tq, bnd_ck, f7]
        exact r_ck (fun _ => go _ (by unfold svT; rw [if_pos z]))
      · rw [decide_eq_false (fun y => z ((s3 _ k46 kb.1).mp y)), br_fq, bnd_ck, f7]
        exact r_ck (fun _ => go _ (by unfold svT; rw [if_neg z]))
    rcases hc with hc | ⟨hc, hc3, hc4⟩
    · rw [decide_eq_true ((I_lt (by omega) (by omega) (by omega) (by omega)).mpr (by omega)), br_tq]
      exact e56
    · subst hc
      rw [decide_eq_false (fun z => by
        have := (I_lt (x := ((rkK (K tok) : Nat) : Int)) (y := ((rkK (K tok) : Nat) : Int)) (by omega) (by omega) (by omega) (by omega)).mp z
        omega), br_fq, show decide (I (rkK (K tok) : Nat) = I (rkK (K tok) : Nat)) = true from decide_eq_true rfl, br_tq, I_dn (a := rkK (K tok)) (b := 3) (s := 3) (by omega) (by decide) rfl, decide_eq_false (by omega), br_fq, I_dn (a := rkK (K tok)) (b := 4) (s := 4) (by omega) (by decide) rfl, decide_eq_false (by omega), br_fq]
      exact e56
theorem pop_t (c : CTZ m0 w0 K T nm Nk) (h : SGA m0 w0 K T nm Nk fof cvr lst g lo0 a0 cm0 q0 Q0 sc0 mS wS (t :: S) y a cm q Q sc m w v2 v3 v4 v5) (h3 : 3 ≤ rkK (K t)) (hlv : lv ≤ 6) (hc : lv < rkK (K t) ∨ (rkK (K t) = lv ∧ rkK (K t) ≠ 3 ∧ rkK (K t) ≠ 4)) (hh : ∀ M' m3 v Q3, SGA m0 w0 K T nm Nk fof cvr lst g lo0 a0 cm0 q0 Q0 sc0 mS wS S y (a + 2) cm q Q3 sc m3 v v2 v3 v4 v5 → (Q0 32 ≤ Q 32 ∧ Q 32 < Q3 32) → A v 28 (Q 32) = -1 → (A v 23 (Q 32) ≠ 12 ∧ A v 23 (Q 32) ≠ 13) → PP RR (fc m3 ()) (bnd (gg_M_reduce N M' v (I (Q0 83 : Nat)) (I (lv : Nat)) (I (Q 32 : Nat)) 1) F)) : PP RR (bnd (jm_Cm_joining N m (I (K t : Nat)) (I (t : Nat))) fc) (bnd (gg_M_reduce N M w (I (Q0 83 : Nat)) (I (lv : Nat)) r0 1) F) := by
  have hnow := SGA_now h
  have hlen := SGA_len h
  have t4 := c.2.1.1.1
  obtain ⟨hs, a1, cm1, q1, Q1, sc1, m1, w1, w2', v2', v3', v4', v5', h2, hx⟩ := h
  have k46' : t ≤ T := (SGA_now h2).2.1.1.2.1.2
  have k46 := c.2.1.1.k46 k46'
  rcases hx with ⟨-, ⟨x1, x2, x3, x4, x5⟩, ht, rfl, rfl, rfl, rfl⟩ | ⟨k616, -⟩
  · have hC := hnow.1
    have hR := hnow.2.1
    have e83 : Q 83 = Q1 83 + 1 := by have := ht.2.2.2.2.2.2.1.2.2.2.2; rw [qst_at] at this; exact this
    have l1 := SGA_len h2
    have w83 : w.1 83 = I ((Q1 83 + 1 : Nat) : Int) := by have := (hR.2 83 (by decide)).1; rw [e83] at this; exact this
    have kp := ht.2.2.2.2.2.2.1.1.2.1
    have q83 : qst Q1 83 (Q1 83 + 1) 83 = Q1 83 + 1 := qst_at
    have e79 : w.2.2.1 79 (Q1 83) = I (rkK (K t) : Nat) := by rw [kp 79 (Q1 83) (by decide) (by show Q1 83 < qst Q1 83 (Q1 83 + 1) 83; omega)]; exact x3
    have e80 : w.2.2.1 80 (Q1 83) = I (t : Nat) := by rw [kp 80 (Q1 83) (by decide) (by show Q1 83 < qst Q1 83 (Q1 83 + 1) 83; omega)]; exact x4
    obtain ⟨n1, n2⟩ := XRS_q hR
    have kt3 : K t ≠ 3 := fun z => by rw [z] at h3; exact absurd h3 (by decide)
    refine join_l hC k46 h3 (by omega) (fun hC2 => ?_)
    refine red_t (XRS_wp c hR).1 k46' x5 w83 (by omega) e79 e80 hlv h3 hc n1 n2 (fun M' v h16 hN h69 r23 r25 r28 => ?_)
    have ht2 := XTR_83 (lo := t) ht rfl x2 (Nat.le_succ t) (fun j j1 j2 => by rw [show j = t by omega]; exact kt3)
    have hR2 := ht2.2.2.1.1
    have hyT := hR.1.2.1.2
    have e32 : qst Q 83 (Q1 83) 32 = Q 32 := qst_no (by decide)
    have ht3 := XT_nod (L := []) (lst := lst) (fof := fof) (cvr := cvr) (K := K) (Nk := Nk) (b := a + 2) ht2.2.1 hR2 ht2.2.2.1.2 ⟨Nat.le_refl y, hyT⟩ (fun j j1 j2 => by omega) (by omega) hC2 (XFC_ps XFC_rf (Nat.le_refl _)) (ptcs_r (by decide)) hN e32 h16 (h69.trans hR.1.2.1.1) (fun n hn => by cases hn) (fun C P R J H fi hx => ⟨fun u u1 u2 => by omega, fun y hy hr => ?_⟩)
    · refine hh M' _ v _ (SGA_ext h2 (XTR_tr ht2 ht3)) ⟨hlen.2.2.2.2.1, by rw [qst_at]; omega⟩ r28 (by rw [r23]; decide)
    · have gc := fi.1
      have ro : ∀ k, 23 ≤ k ∧ k ≤ 31 → k ≠ 27 ∧ k ≠ 29 ∧ k ≠ 30 → R k (Q 32) = A v k (Q 32) := fun k k1 k2 => FIN_R fi k1 k2 ⟨by rw [e32]; exact Nat.le_refl _, by rw [qst_at]; omega⟩
      have c0 := C_0 gc (show a < a + 2 by omega)
      have c1 : C (a + 1) = (I (K t : Nat)).toInt := C_at (k := 1) gc rfl (show a + 1 < a + 2 by omega)
      obtain ⟨b1, b2⟩ := XB c.2.2.1 ht2.2.1 hR2 hx (by rw [← e32] at h16; exact h16)
      obtain ⟨d, hd⟩ := hr
      rw [qst_at] at hd
      rw [e32] at b2 ⊢
      refine cr_1 b1 b2 ⟨d, Or.inr (Or.inr (Or.inr (Or.inr (Or.inr (Or.inr (Or.inl ⟨(ro 23 (by decide) (by decide)).trans r23, ?_, hd⟩))))))⟩
      rw [c0, c1, ro 25 (by decide) (by decide), r25, I_ti (by omega) (by omega)]
      exact tws_k _ k46 h3
  · exfalso
    rcases k616 with z | z <;> (rw [z] at h3; exact absurd h3 (by decide))
end
end
section
set_option maxRecDepth 100000
section
variable {α β : Type} {m0 w0 m w m2 w2 m3 w3 v u w1 mS wS : MS} {K nm Nk W W2 : Nat → Nat} {N T D d o a a0 b b0 c cm cm0 cm2 cm3 q q0 r s lo lo0 mid hi i j f f2 n k kk p p2 σ tk x xa xb M m1 lv y t tok ν : Nat} {Q Q0 Q2 Q3 Q4 : Nat → Nat} {sc sc0 sc2 sc3 : SCT} {g lst l2 : Bool} {L L1 L2 S : List Nat} {idc fof cvr : Int → Int → Int} {z : Unit} {rt v1 v2 v3 v4 v5 r0 : Int32} {fc : MS → Unit → Option (MS × Unit)} {RR : MS → Unit → MS → Int32 → Prop} {A' : Option (MS × Unit)} {B' : Option (MS × Int32)} {F : MS → Int32 → Option (MS × Int32)} {RU : MS → α → MS → β → Prop} {fA : MS → Unit → Option (MS × α)} {BU : Option (MS × β)}
theorem Kco_23 (h : XCS m0 nm m a cm sc g) {gg : Nat → Int32} : XCS m0 nm (upA m 23 gg) a cm sc g := by
  obtain ⟨⟨h1, h2, h3, h4, h5, h6⟩, h7⟩ := h
  exact ⟨⟨⟨h1.1, fun k hk => by rw [upA_no (by omega)]; exact h1.2 k hk⟩, ⟨h2.1, h2.2.1, h2.2.2.1, h2.2.2.2.1, CNl_fr h2.2.2.2.2 (upA_no (by decide)) (fun j _ => by rw [upA_no (by decide)])⟩, h3, h4, by rw [upA_no (by decide)]; exact h5, h6⟩, h7⟩
theorem arr_1 (h441 : m.1 441 = I (b : Nat)) (hx : 0 < x ∧ x < 24000) (h0 : m.2.2.1 23 x = 0) (h : PP RU (fA (upA m 23 (upd (m.2.2.1 23) x (I (b : Nat)))) ()) BU) : PP RU (bnd (hm_Co_arrive N m (I (x : Nat))) fA) BU := by
  refine l_bnd ?_
  unfold hm_Co_arrive hb_Co_arrive_0
  cases N with
  | zero => exact pk_none
  | succ N =>
    show PK _ (hb_Co_arrive_4 (N + 1) (hg_Co_arrive (N + 1) N) m (I (x : Nat)) 0)
    unfold hb_Co_arrive_4
    rw [show decide ((24000 : Int32) ≤ 0) = false from rfl, br_fq, decide_eq_false (fun z => by
      have := (I_eq (x := ((x : Nat) : Int)) (y := 0) (by omega) (by omega) (by decide) (by decide)).mp z
      omega), br_fq]
    unfold hm_Co_at hb_Co_at_0 hb_Co_at_21 hm_Co_set hb_Co_set_0 hb_Co_set_18
    have d1 : decide (I (x : Nat) < (0 : Int32)) = false := decide_eq_false (fun z => by
      have := (I_lt (x := ((x : Nat) : Int)) (y := 0) (by omega) (by omega) (by decide) (by decide)).mp z
      omega)
    have d2 : decide (I (x : Nat) < (24000 : Int32)) = true := decide_eq_true ((I_lt (x := ((x : Nat) : Int)) (y := 24000) (by omega) (by omega) (by decide) (by decide)).mpr (by omega))
    have d3 : decide ((24000 : Int32) ≤ I (x : Nat)) = false := decide_eq_false (fun z => by
      have := (I_le (x := 24000) (y := ((x : Nat) : Int)) (by decide) (by decide) (by omega) (by omega)).mp z
      omega)
    rw [d1, br_fq, d2, br_tq, i_inb (by omega) (by decide), ck_t, bnd_s, br_fq, d3, br_fq, ck_t, i_nt2 (p := x) (by omega), h0, h441, lt_e, bnd_s]
    cases N with
    | zero => exact pk_none
    | succ N =>
      show PK _ (hb_Co_arrive_4 (N + 1 + 1) (hg_Co_arrive (N + 1 + 1) N) _ 0 (0 + 1))
      unfold hb_Co_arrive_4 hb_Co_arrive_40
      rw [show decide ((24000 : Int32) ≤ 0 + 1) = false from rfl, br_fq, show decide ((0 : Int32) = 0) = true from rfl, br_tq]
      exact pk_some h
theorem red_h (h83 : w.1 83 = I ((p + 1 : Nat) : Int)) (hp : p < 3000) (hb : b0 ≤ p) {rk : Nat} (hrk : 1 ≤ rk ∧ rk ≤ 2) (h79 : w.2.2.1 79 p = I (rk : Nat)) (h81 : w.2.2.1 81 p = I (ν : Nat)) (hν : ν ≤ 24000) (h82 : w.2.2.1 82 p = I (n : Nat)) (hlv : lv ≤ 6) (hc : lv ≤ rk) (hG : ∀ M', PP RR A' (bnd (fm_M_unbind N (upI w 83 (I (p : Nat))) (I (n : Nat))) (fun u6 _ => ck (inb (u6.1 83) (ln 81)) (ck (inb (u6.2.2.1 81 (u6.1 83).toNatClampNeg) (ln 25)) (lt (upA u6 25 (upd (u6.2.2.1 25) (u6.2.2.1 81 (u6.1 83).toNatClampNeg).toNatClampNeg (u6.1 32))) (fun w7 => ck (inb (w7.1 83) (ln 81)) (lt (w7.2.2.1 81 (w7.1 83).toNatClampNeg) (fun y8 => bnd (gg_M_reduce N M' w7 (I (b0 : Nat)) (I (lv : Nat)) y8 1) F)))))))) : PP RR A' (bnd (gg_M_reduce N M w (I (b0 : Nat)) (I (lv : Nat)) r0 1) F) := by
  cases M with
  | zero => exact pp_nr
  | succ M =>
    show PP RR A' (bnd (fb_M_reduce_6 N (gg_M_reduce N M) w (I (b0 : Nat)) (I (lv : Nat)) r0 1) F)
    unfold fb_M_reduce_6
    rw [show decide ((1 : Int32) = 0) = false from rfl, br_fq, h83, decI (by omega) (by omega) (by omega) (by omega), decide_eq_false (by omega), br_fq, I_sn, bnd_ck]
    refine r_ck (fun _ => ?_)
    rw [bnd_lt]
    refine r_lt ?_
    rw [tnI (n := p) rfl (by omega), h79]
    have e56 : PP RR A' (bnd (fb_M_reduce_56 N (gg_M_reduce N M) w (I (b0 : Nat)) (I (lv : Nat)) r0 (I (rk : Nat))) F) := by
      unfold fb_M_reduce_56 fb_M_reduce_61 fb_M_reduce_255
      rw [show decide ((1 : Int32) = 0) = false from rfl, br_fq, bnd_lt, h83, I_sn]
      refine r_lt ?_
      rw [I_dn (a := rk) (b := 7) (s := 7) (by omega) (by decide) rfl, decide_eq_false (by omega), br_fq, show decide ((3 : Int32) ≤ I (rk : Nat)) = false from decide_eq_false (fun z => by
        have := (I_le (x := 3) (y := ((rk : Nat) : Int)) (by decide) (by decide) (by omega) (by omega)).mp z
        omega), br_fq, bnd_ck]
      refine r_ck (fun _ => ?_)
      have e83 : (upI w 83 (I (p : Nat))).1 83 = I (p : Nat) := upI_at
      have e82 : (upI w 83 (I (p : Nat))).2.2.1 82 p = I (n : Nat) := h82
      rw [bnd_as2, e83, tnI (n := p) rfl (by omega), e82]
      intro m9 z9 w9 r9 x1 x2
      refine hG M m9 z9 w9 r9 x1 ?_
      rw [← x2]
      refine congrArg _ (funext (fun u6 => funext (fun _ => ?_)))
      rw [bnd_ck, bnd_ck, bnd_lt]
      refine congrArg _ (congrArg _ (congrArg _ (funext (fun w7 => ?_))))
      rw [bnd_ck, bnd_lt]
    by_cases z : lv < rk
    · rw [decide_eq_true ((I_lt (by omega) (by omega) (by omega) (by omega)).mpr (by omega)), br_tq]
      exact e56
    · have hc' : rk = lv := by omega
      subst hc'
      rw [decide_eq_false (fun z => by
        have := (I_lt (x := ((rk : Nat) : Int)) (y := ((rk : Nat) : Int)) (by omega) (by omega) (by omega) (by omega)).mp z
        omega), br_fq, show decide (I (rk : Nat) = I (rk : Nat)) = true from decide_eq_true rfl, br_tq, I_dn (a := rk) (b := 3) (s := 3) (by omega) (by decide) rfl, decide_eq_false (by omega), br_fq, I_dn (a := rk) (b := 4) (s := 4) (by omega) (by decide) rfl, decide_eq_false (by omega), br_fq]
      exact e56
theorem pop_h (c : CTZ m0 w0 K T nm Nk) (h : SGA m0 w0 K T nm Nk fof cvr lst g lo0 a0 cm0 q0 Q0 sc0 mS wS (t :: S) y a cm q Q sc m w v2 v3 v4 v5) (h2 : K t = 6 ∨ K t = 16) (hlv : lv ≤ rkK (K t)) (hh : ∀ M' m3 v rn a3 cm3 Q3 sc3, a ≤ a3 → SGA m0 w0 K T nm Nk fof cvr lst g lo0 a0 cm0 q0 Q0 sc0 mS wS S y a3 cm3 q Q3 sc3 m3 v v2 v3 v4 v5 → (Q0 32 ≤ rn ∧ rn < Q3 32) → A v 28 rn = -1 → (A v 23 rn ≠ 12 ∧ A v 23 rn ≠ 13) → PP RR (fc m3 ()) (bnd (gg_M_reduce N M' v (I (Q0 83 : Nat)) (I (lv : Nat)) (I (rn : Nat)) 1) F)) : PP RR (bnd (jm_Cm_forget N m (if K t = 6 then v3 else v5)) (fun u16 r16 => bnd (hm_Co_arrive N u16 (if K t = 6 then v2 else v4)) fc)) (bnd (gg_M_reduce N M w (I (Q0 83 : Nat)) (I (lv : Nat)) r0 1) F) := by
  have hnow := SGA_now h
  have hlen := SGA_len h
  have t4 := c.2.1.1.1
  obtain ⟨hs, a1, cm1, q1, Q1, sc1, m1, w1, w2', v2', v3', v4', v5', hS, hx⟩ := h
  have hnow1 := SGA_now hS
  have hlen1 := SGA_len hS
  have rk2 : 1 ≤ rkK (K t) ∧ rkK (K t) ≤ 2 := by rcases h2 with z | z <;> (rw [z]; decide)
  rcases hx with ⟨h3, -⟩ | ⟨-, ⟨x1, x2, x3, x4, x5⟩, ⟨g1, g2, g3, g4, g5⟩, hb1, ht, hv⟩
  · omega
  have hR := hnow.2.1
  have e83 : Q 83 = Q1 83 + 1 := by have := ht.2.2.2.2.2.2.1.2.2.2.2; rw [qst_at] at this; exact this
  have w83 : w.1 83 = I ((Q1 83 + 1 : Nat) : Int) := by have := (hR.2 83 (by decide)).1; rw [e83] at this; exact this
  have kp := ht.2.2.2.2.2.2.1.1.2.1
  have q83 : qst (qst Q1 32 (Q1 32 + 1)) 83 (Q1 83 + 1) 83 = Q1 83 + 1 := qst_at
  have below : ∀ k, k = 79 ∨ k = 80 ∨ k = 81 ∨ k = 82 → w.2.2.1 k (Q1 83) = w2'.2.2.1 k (Q1 83) := fun k hk => kp k (Q1 83) (by rcases hk with rfl | rfl | rfl | rfl <;> decide) (by
    have : grp k = 83 := by rcases hk with rfl | rfl | rfl | rfl <;> rfl
    rw [this, q83]; omega)
  have e79 : w.2.2.1 79 (Q1 83) = I (rkK (K t) : Nat) := (below 79 (by omega)).trans x3
  have e81 : w.2.2.1 81 (Q1 83) = I (Q1 32 : Nat) := (below 81 (by omega)).trans g1
  have e82 : w.2.2.1 82 (Q1 83) = I ((hdS sc1).1.length : Nat) := (below 82 (by omega)).trans g2
  obtain ⟨e1, t1, rfl⟩ := PRS_ne hnow1.2.1.1
  have hfa : (if K t = 6 then v3 else v5) = I (tot (e1 :: t1) : Nat) ∧ (if K t = 6 then v2 else v4) = I ((a1 + 1 : Nat) : Int) := by
    rcases hv with ⟨z, z2, z3, -⟩ | ⟨z, z2, z3, -⟩
    · rw [if_pos z, if_pos z]; exact ⟨z3, z2⟩
    · rw [if_neg (by omega), if_neg (by omega)]; exact ⟨z3, z2⟩
  rw [hfa.1, hfa.2]
  have kt3 : K t ≠ 3 := by rcases h2 with z | z <;> omega
  have hν : Q1 32 ≤ 24000 := by omega
  refine red_h (ν := Q1 32) w83 x5 (by omega) rk2 e79 e81 hν e82 (by omega) hlv (fun M' => ?_)
  have ht2 := XTR_83 (lo := t + 1) (w := w2') ht (qst_no (by decide)) QRR_rf (Nat.le_refl _) (fun j j1 j2 => by omega)
  refine fg_pp c ht2 (fun m3 w3 b' Q3 sc3 ht3 hsc3 hQ3 hq3 hbb hrw => ?_)
  have hC3 := ht3.2.1
  have hR3 := ht3.2.2.1.1
  have l3 := ht3.1
  have s83 : Q3 83 = Q1 83 := by have := ht3.2.2.2.2.2.2.1.2.2.2.2; rw [qst_no (by decide)] at this; exact this
  have f83 : w3.1 83 = I (Q1 83 : Nat) := by have := (hR3.2 83 (by decide)).1; rw [s83] at this; exact this
  have q3ν : Q1 32 + 1 ≤ Q3 32 := by have := ht3.2.2.2.2.2.2.1.2.1 32 (by decide); rw [qst_at] at this; exact this
  have k3 := ht3.2.2.2.2.2.2.1.1.2.1
  have h81' : w3.2.2.1 81 (Q1 83) = I (Q1 32 : Nat) := by
    rw [hrw 81 (by omega)]
    exact e81
  have p1 : 1 ≤ a1 := hnow1.1.1.2.2.1.2.1
  have m3h : m3.2.2.1 23 (a1 + 1) = 0 := by
    rw [ht3.2.2.2.2.2.1.2.2.1 (a1 + 1) (by omega)]
    exact ptcs_at (l := [if K t = 6 then 13 else 14, 0]) (a := a1) (k := 1) rfl
  refine arr_1 hC3.1.2.2.1.1 ⟨by omega, by omega⟩ m3h ?_
  obtain ⟨n1, n2⟩ := XRS_q hR3
  rw [f83, i_nt2 (p := Q1 83) (by omega), h81', i_nt2 (p := Q1 32) (by omega), n1]
  refine r_ck (fun _ => r_ck (fun _ => r_lt ?_))
  have f83' : (upA w3 25 (upd (w3.2.2.1 25) (Q1 32) (I (Q3 32 : Nat)))).1 83 = I (Q1 83 : Nat) := f83
  have h81'' : (upA w3 25 (upd (w3.2.2.1 25) (Q1 32) (I (Q3 32 : Nat)))).2.2.1 81 (Q1 83) = I (Q1 32 : Nat) := by rw [upA_no (by decide)]; exact h81'
  rw [f83', i_nt2 (p := Q1 83) (by omega), h81'']
  refine r_ck (fun _ => r_lt ?_)
  have hC4 : XCS m0 nm (upA m3 23 (upd (m3.2.2.1 23) (a1 + 1) (I (b' : Nat)))) b' cm sc3 g := Kco_23 hC3
  have hR4 : XRS w0 T (upA w3 25 (upd (w3.2.2.1 25) (Q1 32) (I (Q3 32 : Nat)))) y Q3 sc3 := ⟨PRS_x hR3.1 (fun _ _ => rfl) (fun k hk => by rw [upA_no (by omega)]) hR3.1.2.1.1, hR3.2⟩
  have r25 : A (upA w3 25 (upd (w3.2.2.1 25) (Q1 32) (I (Q3 32 : Nat)))) 25 (Q1 32) = ((Q3 32 : Nat) : Int) := by
    show ((upA w3 25 _).2.2.1 25 (Q1 32)).toInt = _
    rw [upA_at, upd_at]
    exact I_ti (by omega) (by omega)
  have rno : ∀ k i, k ≠ 25 → A (upA w3 25 (upd (w3.2.2.1 25) (Q1 32) (I (Q3 32 : Nat)))) k i = A w3 k i := fun k i hk => by
    show ((upA w3 25 _).2.2.1 k i).toInt = _
    rw [upA_no hk]; rfl
  have rno2 : ∀ k i, i ≠ Q1 32 → (upA w3 25 (upd (w3.2.2.1 25) (Q1 32) (I (Q3 32 : Nat)))).2.2.1 k i = w3.2.2.1 k i := fun k i hi => by
    by_cases z : k = 25
    · subst z; rw [upA_at, upd_no hi]
    · rw [upA_no z]
  have k3' : ∀ k, 23 ≤ k → k ≤ 31 → A w3 k (Q1 32) = A w2' k (Q1 32) := fun k z1 z2 => congrArg Int32.toInt (k3 k (Q1 32) (by unfold grp; rw [if_pos ⟨z1, z2⟩]; decide) (by unfold grp; rw [if_pos ⟨z1, z2⟩, qst_at]; omega))
  have hW : QRR Q1 w1 (upA w3 25 (upd (w3.2.2.1 25) (Q1 32) (I (Q3 32 : Nat)))) := QRR_A (QRR_tr x2 ht3.2.2.2.2.2.2.1.1 (QLE_st QLE_rf (by omega))) (by decide) (Nat.le_refl _)
  have mo : ∀ j, j ≠ a1 + 1 → (upA m3 23 (upd (m3.2.2.1 23) (a1 + 1) (I (b' : Nat)))).2.2.1 23 j = m3.2.2.1 23 j := fun j hj => by rw [upA_at, upd_no hj]
  have mo2 : ∀ k, k ≠ 23 → (upA m3 23 (upd (m3.2.2.1 23) (a1 + 1) (I (b' : Nat)))).2.2.1 k = m3.2.2.1 k := fun k hk => upA_no hk
  have m4x : (upA m3 23 (upd (m3.2.2.1 23) (a1 + 1) (I (b' : Nat)))).2.2.1 23 (a1 + 1) = I (b' : Nat) := by rw [upA_at, upd_at]
  have m4i : (upA m3 23 (upd (m3.2.2.1 23) (a1 + 1) (I (b' : Nat)))).1 = m3.1 := rfl
  obtain ⟨b1, b2, b3, b4, ⟨W, b5, b6⟩, b7, b8, b9, b10, b11⟩ := ht3
  have onm : Onm nm sc3 = Onm nm (e1 :: t1) := by unfold Onm; rw [hsc3]; rfl
  have q132 : Q1 32 < Q3 32 := by omega
  have rnj : (upA w3 25 (upd (w3.2.2.1 25) (Q1 32) (I (Q3 32 : Nat)))).2.2.2 = w3.2.2.2 := rfl
  generalize upA w3 25 (upd (w3.2.2.1 25) (Q1 32) (I (Q3 32 : Nat))) = X at hR4 r25 rno rno2 hW rnj
  generalize upA m3 23 (upd (m3.2.2.1 23) (a1 + 1) (I (b' : Nat))) = Z at hC4 mo mo2 m4x m4i
  have a23 : A X 23 (Q1 32) = (if K t = 6 then 9 else 10) := (rno 23 _ (by decide)).trans ((k3' 23 (by decide) (by decide)).trans g3)
  have a28 : A X 28 (Q1 32) = -1 := (rno 28 _ (by decide)).trans ((k3' 28 (by decide) (by decide)).trans g4)
  have gap : ∀ j, t ≤ j → j < t + 1 → K j ≠ 3 := fun j j1 j2 => by rw [show j = t by omega]; exact kt3
  have ht4 : XTR m0 w0 K T nm Nk fof cvr lst g [] t y a1 b' cm1 cm q1 q Q1 Q3 (e1 :: t1) sc3 m1 w1 Z X := by
    refine ⟨⟨by omega, by omega, b1.2.2⟩, hC4, ⟨hR4, b3.2⟩, by omega, ⟨W, HDx_tr (by omega) b1.1 (HDx_gap gap) b5, ?_⟩, ⟨fun k k1 k2 => ?_, fun k k1 k2 k3 => ?_, fun j hj => ?_, fun k j k1 k2 k3 => ?_, fun j hj => ?_, fun j hj => ?_⟩, ⟨hW, ?_, ?_⟩, fun _ => hsc3, fun n hn => (by cases hn), fun C P R J H fi hx => ?_⟩
    · rw [mo2 42 (by decide), b6, ptcs_r (by decide), ← wup_tr (p := t) (q := t + 1) (p2 := y) (by omega) b1.1, wup_0 (p := t) gap]
    · rw [m4i, b7.1 k k1 k2]; exact ptcs_i k1
    · rw [mo2 k k1, b7.2.1 k k1 k2 k3]; exact ptcs_r k1
    · rw [mo j (by omega), b7.2.2.1 j (by omega)]; exact ptcs_o (Or.inl hj)
    · rw [mo2 k (by omega), b7.2.2.2.1 k j k1 k2 k3, ptcs_r (by omega)]
    · rw [mo2 40 (by decide), b7.2.2.2.2.1 j hj, ptcs_r (by decide)]
    · rw [mo2 41 (by decide), b7.2.2.2.2.2 j hj, ptcs_r (by decide)]
    · refine fun k hk => ?_
      have := b8.2.1 k hk
      by_cases z : k = 32
      · rw [z]; omega
      · rw [qst_no z] at this; exact this
    · have := b8.2.2
      rw [qst_no (by decide), qst_no (by decide), qst_no (by decide)] at this
      exact this
    · 
      have hx2 : HNX nm (e1 :: t1) cm1 H := HNX_mo b5.1 b1.2.2.1 hx
      have fi2 : FNd w0 fof cvr C P R J m3 w3 (a1 + 2) b' q1 q (qst Q1 32 (Q1 32 + 1)) Q3 lst [] := by
        refine FIN_sub fi ⟨by omega, Nat.le_refl _⟩ ⟨Nat.le_refl _, Nat.le_refl _⟩ (QLE_st QLE_rf (by omega)) QLE_rf (fun j z1 z2 => mo j (by omega)) (fun k u z1 z2 _ _ => by rw [mo2 k (by omega)]) ⟨fun k n z1 z2 z3 z4 z5 => ?_, fun n _ _ => ?_⟩ (fun n z1 z2 => ?_)
        · by_cases z : n = Q1 32
          · subst z
            by_cases zk : grp k = 32
            · rw [zk, qst_at] at z4; omega
            · have nk : k ≠ 25 := fun zz => by rw [zz] at zk; exact zk rfl
              have := rno k (Q1 32) nk
              exact Int32.toInt_inj.mp this
          · exact rno2 k n z
        · rw [rnj]
        · rw [rno 30 n (by decide)]
      obtain ⟨d1, d2⟩ := b11 C P R J H fi2 hx
      refine ⟨d1, fun yy hy hr => ?_⟩
      obtain ⟨dI, hI⟩ := d2 yy hy hr
      obtain ⟨dE, hE⟩ := hr
      have gc := fi.1
      have ro : ∀ k, 23 ≤ k ∧ k ≤ 31 → k ≠ 27 ∧ k ≠ 29 ∧ k ≠ 30 → R k (Q1 32) = A X k (Q1 32) := fun k k1 k2 => FIN_R fi k1 k2 ⟨Nat.le_refl _, q132⟩
      have c0 : C a1 = (if K t = 6 then 13 else 14) := by
        rw [gc a1 (Nat.le_refl _) (by omega)]
        show (Z.2.2.1 23 a1).toInt = _
        rw [mo a1 (by omega), b7.2.2.1 a1 (by omega)]
        have := ptcs_at (l := [if K t = 6 then 13 else 14, 0]) (m := m1) (a := a1) (k := 0) rfl
        rw [Nat.add_zero] at this
        rw [this]
        split <;> rfl
      have c1 : C (a1 + 1) = ((b' : Nat) : Int) := by
        rw [gc (a1 + 1) (by omega) (by omega)]
        show (Z.2.2.1 23 (a1 + 1)).toInt = _
        rw [m4x]
        have := hC4.1.2.2.1.2.2
        exact I_ti (by omega) (by omega)
      obtain ⟨x1', x2'⟩ := XB c.2.2.1 hnow1.1 hnow1.2.1 hx2 g5
      rw [onm] at hE
      refine cr_1 x1' x2' ⟨max dI dE, Or.inr (Or.inr (Or.inr (Or.inr (Or.inr (Or.inr (Or.inr (Or.inr (Or.inr (Or.inl ⟨?_, ⟨b', Q3 32, c1, (ro 25 (by decide) (by decide)).trans r25, CR_mo (Nat.le_max_right _ _) hE⟩, ?_⟩)))))))))⟩
      · rcases h2 with z | z
        · exact Or.inl ⟨(ro 23 (by decide) (by decide)).trans (a23.trans (if_pos z)), c0.trans (if_pos z)⟩
        · exact Or.inr ⟨(ro 23 (by decide) (by decide)).trans (a23.trans (if_neg (by omega))), c0.trans (if_neg (by omega))⟩
      · have := CR_mo (Nat.le_max_left dI dE) hI
        rw [qst_at] at this
        exact this
  have nr : rkK (K t) < 3 := by omega
  have fin : SGA m0 w0 K T nm Nk fof cvr lst g lo0 a0 cm0 q0 Q0 sc0 mS wS S y b' cm q Q3 sc3 Z X v2 v3 v4 v5 := by
    refine SGA_v ?_ ?_ (SGA_ext hS ht4)
    · rcases hv with ⟨z, -, -, -, -⟩ | ⟨z, -, -, z4, z5⟩
      · refine Or.inl (fun t' ht' z' => ?_)
        have := hs t' ht'
        rw [z, z'] at this
        revert this; decide
      · exact Or.inr ⟨z4.symm, z5.symm⟩
    · rcases hv with ⟨z, -, -, z4, z5⟩ | ⟨z, -, -, -, -⟩
      · exact Or.inr ⟨z4.symm, z5.symm⟩
      · refine Or.inl (fun t' ht' z' => ?_)
        have := hs t' ht'
        rw [z, z'] at this
        revert this; decide
  refine hh M' Z X (Q1 32) b' cm Q3 sc3 hbb fin ⟨hlen1.2.2.2.2.1, q132⟩ a28 ?_
  rw [a23]
  rcases h2 with z | z
  · rw [if_pos z]; decide
  · rw [if_neg (by omega)]; decide
end
end
section
set_option maxRecDepth 100000
section
variable {α β : Type} {m0 w0 m w m2 w2 m3 w3 v u w1 mS wS : MS} {K nm Nk W W2 : Nat → Nat} {N T D d o a a0 b b0 c cm cm0 cm2 cm3 q q0 r s lo lo0 mid hi i j f f2 n k kk p p2 σ tk x xa xb cc M M' m1 lv y t tok : Nat} {Q Q0 Q2 Q3 Q4 : Nat → Nat} {sc sc0 sc2 sc3 : SCT} {g lst l2 : Bool} {L L1 L2 S : List Nat} {idc fof cvr : Int → Int → Int} {z : Unit} {rt v1 v2 v3 v4 v5 r0 : Int32} {fc : MS → Unit → Option (MS × Unit)} {RR : MS → Unit → MS → Int32 → Prop} {A' : Option (MS × Unit)} {B' : Option (MS × Int32)} {F : MS → Int32 → Option (MS × Int32)} {E : Nat → Nat → Nat → Nat → Nat → Nat → Nat → Prop}
theorem rnk_46 : ∀ k, k < 46 → rnkc ((k : Nat) : Int) = rkK k := by decide
theorem rnk_e (c : CTZ m0 w0 K T nm Nk) (hp : p ≤ T) : rnkc (A m0 6 p) = rkK (K p) := by
  have h : A m0 6 p = ((K p : Nat) : Int) := by
    have k46 := c.2.1.1.k46 hp
    show (m0.2.2.1 6 p).toInt = _
    rw [c.1.2 p hp]
    exact I_ti (by omega) (by omega)
  rw [h, rnk_46 _ (c.2.1.1.k46 hp)]
theorem SF_hd2 (hb : BdE E) : ∀ {j n x c q : Nat} {S : List Nat} {g : Bool}, SFcK u E hi b r j n x c q S g → x ≤ hi + 1 ∧ c ≤ b ∧ q ≤ r
  | 0, n, x, c, q, S, g, h => by obtain ⟨-, h1, h2, h3, -⟩ := h; omega
  | j + 1, n, x, c, q, S, g, h => by
    obtain ⟨-, n2, x2, c2, q2, S2, g2, h1, -, h2⟩ := h
    have z := SF_hd2 hb h2
    rcases h1 with ⟨⟨m, e, rfl⟩, -⟩ | ⟨⟨rfl, h3, rfl, rfl⟩, -⟩
    · have := hb _ _ _ _ _ _ _ e
      unfold HDc at this
      omega
    · omega
theorem SF_end2 : ∀ {j n x c q : Nat} {S : List Nat}, SFcK u E hi b r j n x c q S true → x - 1 = hi ∨ 1 ≤ rnkc (A u 6 (x - 1))
  | 0, n, x, c, q, S, h => by obtain ⟨-, h1, -⟩ := h; omega
  | j + 1, n, x, c, q, S, h => by
    obtain ⟨-, n2, x2, c2, q2, S2, g2, h1, -, h2⟩ := h
    rcases h1 with ⟨-, -, h3⟩ | ⟨⟨rfl, -⟩, -, h3⟩
    · rcases h3 with ⟨z, -⟩ | ⟨-, -, z, -⟩
      · cases z
      · omega
    · rcases h3 with ⟨-, -, -, z, -⟩ | ⟨-, t, -, -, -, -, rfl⟩
      · rcases z with z | z <;> (rw [z]; right; decide)
      · exact SF_end2 h2
theorem xp_kd {q r hi lo n f : Nat} (h : XPcK u f o 1 n lo hi a b q r) : ∃ v : Nat, A u 16 n = ((v : Nat) : Int) ∧ v ≤ 18 := by
  cases f with
  | zero => exact h.elim
  | succ f =>
    obtain ⟨h1, h2, h3, h4⟩ := h
    have fin : ∀ x : Int, A u 16 n = x → 0 ≤ x → x ≤ 18 → ∃ v : Nat, A u 16 n = ((v : Nat) : Int) ∧ v ≤ 18 := fun x hx h0 h18 => ⟨x.toNat, by omega, by omega⟩
    rcases h4 with h | h | h | h | h | h | h | h | h | h | h | h | h | h | h | h | h
    · exact fin _ h.1.1 (by have := h.1.2.1; omega) (by have := h.1.2.1; omega)
    · exact fin _ h.1 (by omega) (by omega)
    · exact fin _ h.1 (by omega) (by omega)
    · exact fin _ h.1 (by omega) (by omega)
    · exact fin _ h.1 (by omega) (by omega)
    · exact fin _ h.1 (by omega) (by omega)
    · exact fin _ h.1 (by omega) (by omega)
    · exact fin _ h.1 (by omega) (by omega)
    · exact fin _ h.1 (by omega) (by omega)
    · exact fin _ h.1 (by omega) (by omega)
    · exact fin _ h.1 (by omega) (by omega)
    · exact fin _ h.1 (by omega) (by omega)
    · rcases h.1 with z | z
      · exact fin _ z (by omega) (by omega)
      · exact fin _ z (by omega) (by omega)
    · exact absurd h.2.1 (by decide)
    · exact absurd h.2.1 (by decide)
    · exact absurd h.2.1 (by decide)
    · exact absurd h.2.1 (by decide)
theorem rdc_0 (h83 : w.1 83 = I (b0 : Nat)) (hb : b0 ≤ 24000) (h : PP RR A' (F w r0)) : PP RR A' (bnd (gg_M_reduce N M w (I (b0 : Nat)) (I (lv : Nat)) r0 1) F) := by
  cases M with
  | zero => exact pp_nr
  | succ M =>
    show PP RR A' (bnd (fb_M_reduce_6 N (gg_M_reduce N M) w (I (b0 : Nat)) (I (lv : Nat)) r0 1) F)
    unfold fb_M_reduce_6 fb_M_reduce_258
    rw [show decide ((1 : Int32) = 0) = false from rfl, br_fq, h83, decI (by omega) (by omega) (by omega) (by omega), decide_eq_true (by omega), br_tq, bnd_s]
    exact h
theorem rdc_1 {rk : Nat} (h83 : w.1 83 = I ((p + 1 : Nat) : Int)) (hp : p < 3000) (hb : b0 ≤ p) (h79 : w.2.2.1 79 p = I (rk : Nat)) (hlv : lv ≤ 6) (hc : rk < lv ∨ (rk = 4 ∧ lv = 4)) (h : PP RR A' (F w r0)) : PP RR A' (bnd (gg_M_reduce N M w (I (b0 : Nat)) (I (lv : Nat)) r0 1) F) := by
  cases M with
  | zero => exact pp_nr
  | succ M =>
    show PP RR A' (bnd (fb_M_reduce_6 N (gg_M_reduce N M) w (I (b0 : Nat)) (I (lv : Nat)) r0 1) F)
    unfold fb_M_reduce_6
    rw [show decide ((1 : Int32) = 0) = false from rfl, br_fq, h83, decI (by omega) (by omega) (by omega) (by omega), decide_eq_false (by omega), br_fq, I_sn, bnd_ck]
    refine r_ck (fun _ => ?_)
    rw [bnd_lt]
    refine r_lt ?_
    rw [tnI (n := p) rfl (by omega), h79]
    have e60 : PP RR A' (bnd (fb_M_reduce_60 N (gg_M_reduce N M) w (I (b0 : Nat)) (I (lv : Nat)) r0 (I (rk : Nat))) F) := by
      unfold fb_M_reduce_60 fb_M_reduce_61 fb_M_reduce_255
      rw [show decide ((0 : Int32) = 0) = true from rfl, br_tq]
      cases M with
      | zero => exact pp_nr
      | succ M =>
        show PP RR A' (bnd (fb_M_reduce_6 N (gg_M_reduce N M) w (I (b0 : Nat)) (I (lv : Nat)) r0 0) F)
        unfold fb_M_reduce_6 fb_M_reduce_258
        rw [show decide ((0 : Int32) = 0) = true from rfl, br_tq, bnd_s]
        exact h
    rw [decide_eq_false (fun z => by
      have := (I_lt (x := ((lv : Nat) : Int)) (y := ((rk : Nat) : Int)) (by omega) (by omega) (by omega) (by omega)).mp z
      omega), br_fq]
    by_cases z : rk = lv
    · have h4 : rk = 4 ∧ lv = 4 := by omega
      obtain ⟨rfl, rfl⟩ := h4
      rw [show decide (I ((4 : Nat) : Int) = I ((4 : Nat) : Int)) = true from decide_eq_true rfl, br_tq, show decide (I ((4 : Nat) : Int) = 3) = false from rfl, br_fq, show decide (I ((4 : Nat) : Int) = 4) = true from rfl, br_tq]
      exact e60
    · rw [decide_eq_false (fun y => z (by
        have := (I_eq (x := ((rk : Nat) : Int)) (y := ((lv : Nat) : Int)) (by omega) (by omega) (by omega) (by omega)).mp y
        omega)), br_fq]
      exact e60
theorem SGA_top (h : SGA m0 w0 K T nm Nk fof cvr lst g lo0 a0 cm0 q0 Q0 sc0 mS wS (t :: S) y a cm q Q sc m w v2 v3 v4 v5) : ∃ p, Q 83 = p + 1 ∧ Q0 83 ≤ p ∧ p < 3000 ∧ w.2.2.1 79 p = I (rkK (K t) : Nat) ∧ t ≤ T ∧ (3 ≤ rkK (K t) ∨ K t = 6 ∨ K t = 16) ∧ ∀ t', t' ∈ S → rkK (K t') < rkK (K t) ∨ (rkK (K t') = 4 ∧ rkK (K t) = 4) := by
  obtain ⟨hs, a1, cm1, q1, Q1, sc1, m1, w1, w2', v2', v3', v4', v5', h2, hx⟩ := h
  have l1 := SGA_len h2
  have tT : t ≤ T := (SGA_now h2).2.1.1.2.1.2
  rcases hx with ⟨g3, ⟨x1, x2, x3, x4, x5⟩, ht, -⟩ | ⟨g3, ⟨x1, x2, x3, x4, x5⟩, -, -, ht, -⟩
  · have e83 : Q 83 = Q1 83 + 1 := by have := ht.2.2.2.2.2.2.1.2.2.2.2; rw [qst_at] at this; exact this
    have kp := ht.2.2.2.2.2.2.1.1.2.1
    have q83 : qst Q1 83 (Q1 83 + 1) 83 = Q1 83 + 1 := qst_at
    have l2 := ht.1
    exact ⟨Q1 83, e83, by omega, x5, (kp 79 (Q1 83) (by decide) (by show Q1 83 < qst Q1 83 (Q1 83 + 1) 83; omega)).trans x3, tT, Or.inl g3, hs⟩
  · have e83 : Q 83 = Q1 83 + 1 := by have := ht.2.2.2.2.2.2.1.2.2.2.2; rw [qst_at] at this; exact this
    have kp := ht.2.2.2.2.2.2.1.1.2.1
    have q83 : qst (qst Q1 32 (Q1 32 + 1)) 83 (Q1 83 + 1) 83 = Q1 83 + 1 := qst_at
    have l2 := ht.1
    exact ⟨Q1 83, e83, by omega, x5, (kp 79 (Q1 83) (by decide) (by show Q1 83 < qst (qst Q1 32 (Q1 32 + 1)) 83 (Q1 83 + 1) 83; omega)).trans x3, tT, Or.inr g3, hs⟩
theorem clo_ps {SS : SG_M_behind} (c : CTZ m0 w0 K T nm Nk) (h : SGA m0 w0 K T nm Nk fof cvr lst g lo0 a0 cm0 q0 Q0 sc0 mS wS S y a cm q Q sc m w v2 v3 v4 v5) (h1 : 1 ≤ rkK (K y)) (hc : CLOk m0 y S) (hh : PP RR A' (kb_M_worked_189 N SS (kg_M_worked N SS M) w (I (Q0 83 : Nat)) r0 1 (I (rkK (K y) : Nat)))) : PP RR A' (bnd (gg_M_reduce N M' w (I (Q0 83 : Nat)) (I (rkK (K y) : Nat)) r0 1) (wkG N SS M (I (Q0 83 : Nat)) (rkK (K y)))) := by
  have hnow := (SGA_now h).2.1
  have h83 := hnow.2 83 (by decide)
  have hl := SGA_len h
  have hyT : y ≤ T := hnow.1.2.1.2
  have r6 := rk6 (c.2.1.1.k46 hyT)
  have nz : ¬ rkK (K y) = 0 := by omega
  cases S with
  | nil =>
    have e83 : w.1 83 = I (Q0 83 : Nat) := by have := h83.1; rw [show Q 83 = Q0 83 from hl.1] at this; exact this
    refine rdc_0 e83 (by omega) ?_
    unfold wkG
    rw [if_neg nz, e83]
    refine r_br (fun _ => ?_) (fun _ => hh)
    rw [decI (by omega) (by omega) (by omega) (by omega), decide_eq_true (by omega), br_tq]
    exact hh
  | cons t S =>
    obtain ⟨p, p1, p2, p3, p4, p5, p6, p7⟩ := SGA_top h
    have cl := hc t S rfl
    rw [rnk_e c p5, rnk_e c hyT] at cl
    have e83 : w.1 83 = I ((p + 1 : Nat) : Int) := by have := h83.1; rw [p1] at this; exact this
    have k46 := rk6 (c.2.1.1.k46 p5)
    refine rdc_1 e83 p3 p2 p4 r6 cl ?_
    unfold wkG
    rw [if_neg nz, e83, I_sn]
    refine r_br (fun z3 => ?_) (fun _ => hh)
    have z3 : rkK (K y) = 3 := by
      have := (I_eq (x := ((rkK (K y) : Nat) : Int)) (y := 3) (by omega) (by omega) (by decide) (by decide)).mp (of_decide_eq_true z3)
      omega
    refine r_br (fun _ => hh) (fun _ => r_ck (fun _ => ?_))
    rw [i_nt2 (p := p) (by omega), p4, decide_eq_false (fun z => by
      have := (I_eq (x := ((rkK (K t) : Nat) : Int)) (y := 3) (by omega) (by omega) (by decide) (by decide)).mp z
      omega), br_fq]
    exact hh
theorem ord_c (c : CTZ m0 w0 K T nm Nk) (h : SGA m0 w0 K T nm Nk fof cvr lst g lo0 a0 cm0 q0 Q0 sc0 mS wS S y a cm q Q sc m w v2 v3 v4 v5) (hc : CLOk m0 y S) : ∀ t', t' ∈ S → rkK (K t') < rkK (K y) ∨ (rkK (K t') = 4 ∧ rkK (K y) = 4) := by
  have hyT : y ≤ T := (SGA_now h).2.1.1.2.1.2
  cases S with
  | nil => intro t' ht'; cases ht'
  | cons t S =>
    obtain ⟨p, p1, p2, p3, p4, p5, p6, p7⟩ := SGA_top h
    have cl := hc t S rfl
    rw [rnk_e c p5, rnk_e c hyT] at cl
    intro t' ht'
    rcases List.mem_cons.mp ht' with rfl | z
    · exact cl
    · have := p7 t' z
      omega
theorem s198 {SF : SF_Cm_fun} {G : MS → Int32 → Int32 → Int32 → Int32 → Int32 → Option (MS × Unit)} (fr : FRC m0 m) (hn : n ≤ 8015) {n2 : Nat} (h21 : A m0 21 n = ((n2 : Nat) : Int)) (h : PP RR (bnd (G m v2 v3 v4 v5 (I (n2 : Nat))) fc) B') : PP RR (bnd (jb_Cm_signs_198 N SF G m v2 v3 v4 v5 (I (n : Nat))) fc) B' := by
  unfold jb_Cm_signs_198
  rw [bnd_ck, i_nt2 (show n ≤ 100000 by omega), tre fr (by decide) h21]
  exact l_ck (fun _ => h)
theorem sgn_x (c : CTZ m0 w0 K T nm Nk) (IU : HXU N m0 w0 K T nm Nk fof cvr f) (hxb : xb ≤ 8015) (hr4 : r ≤ 400) (hcl : K hi ≠ 20 ∧ hi ≤ T ∧ rkK (K hi) = 0) (htot : tot sc0 + (hi - lo0) ≤ 4000 ∧ sc0.length ≤ o + 1)
    (hend : ∀ m w a cm Q sc rn, a0 < a → XTR m0 w0 K T nm Nk fof cvr lst g [] lo0 hi a0 a cm0 cm q0 r Q0 Q sc0 sc mS wS m w → (Q0 32 ≤ rn ∧ rn < Q 32) → A w 28 rn = -1 → (A w 23 rn ≠ 12 ∧ A w 23 rn ≠ 13) → PP RR (fc m ()) (some (w, I (rn : Nat)))) :
    ∀ j, (∀ (M M' k n x cc q : Nat) (S : List Nat) (a cm : Nat) (Q : Nat → Nat) (sc : SCT) (m w : MS) (v2 v3 v4 v5 : Int32) (rn : Nat), SFcK m0 (XPcK m0 f o 1) hi xb r j n x cc q S true → 1 ≤ x → SGA m0 w0 K T nm Nk fof cvr lst g lo0 a0 cm0 q0 Q0 sc0 mS wS S (x - 1) a cm q Q sc m w v2 v3 v4 v5 → (Q0 32 ≤ rn ∧ rn < Q 32) → a0 < a → ((A w 28 rn = -1 ∧ (A w 23 rn ≠ 12 ∧ A w 23 rn ≠ 13)) ∨ 1 ≤ j) → PP RR (bnd (jg_Cm_signs N (jrc_Cm_fun N D) k m v2 v3 v4 v5 (I (n : Nat))) fc) (bnd (gg_M_reduce N M' w (I (Q0 83 : Nat)) (I (rkK (K (x - 1)) : Nat)) (I (rn : Nat)) 1) (wkG N (krc_M_behind N d) M (I (Q0 83 : Nat)) (rkK (K (x - 1)))))) ∧
      (∀ (M k n x cc q : Nat) (S : List Nat) (a cm : Nat) (Q : Nat → Nat) (sc : SCT) (m w : MS) (v2 v3 v4 v5 : Int32), SFcK m0 (XPcK m0 f o 1) hi xb r j n x cc q S false → SGA m0 w0 K T nm Nk fof cvr lst g lo0 a0 cm0 q0 Q0 sc0 mS wS S x a cm q Q sc m w v2 v3 v4 v5 → (S = [] → 2 ≤ j) → PP RR (bnd (jg_Cm_signs N (jrc_Cm_fun N D) k m v2 v3 v4 v5 (I (n : Nat))) fc) ((kg_M_worked N (krc_M_behind N d) M).2 w (I (Q0 83 : Nat)))) := by
  have t4 := c.2.1.1.1
  have hb : BdE (XPcK m0 f o 1) := XP_bdK f o 1
  intro j
  induction j with
  | zero =>
    refine ⟨fun M M' k n x cc q S a cm Q sc m w v2 v3 v4 v5 rn h hx0 hS hrn ha0 hok => ?_, fun M k n x cc q S a cm Q sc m w v2 v3 v4 v5 h hS h2 => ?_⟩
    · obtain ⟨rfl, rfl, rfl, rfl, rfl, -⟩ := h
      rcases hok with hok | hok
      · rw [show hi + 1 - 1 = hi from rfl] at hS ⊢
        have hR := hS.2.2.1.1
        have h83 := hR.2 83 (by decide)
        have e83 : Q 83 = Q0 83 := (SGA_len hS).1
        rw [e83] at h83
        rw [hcl.2.2]
        refine rdc_0 h83.1 h83.2 ?_
        unfold wkG
        rw [if_pos rfl]
        cases k with
        | zero => exact pp_nl
        | succ k =>
          show PP RR (bnd (jb_Cm_signs_13 N (jrc_Cm_fun N D) (jg_Cm_signs N (jrc_Cm_fun N D) k) m v2 v3 v4 v5 (I ((0 : Nat) : Int))) fc) _
          unfold jb_Cm_signs_13
          rw [show decide (I ((0 : Nat) : Int) = 0) = true from rfl, br_tq, bnd_s]
          exact hend m w a cm Q sc rn ha0 hS hrn hok.1 hok.2
      · omega
    · obtain ⟨-, -, -, -, -, z⟩ := h
      cases z
  | succ j ih =>
    obtain ⟨ihA, ihB⟩ := ih
    have unit : ∀ (M k n x cc q : Nat) (S : List Nat) (a cm : Nat) (Q : Nat → Nat) (sc : SCT) (m w : MS) (v2 v3 v4 v5 : Int32) (n2 mm c2 q2 : Nat), XPcK m0 f o 1 n x mm cc c2 q q2 → A m0 21 n = ((n2 : Nat) : Int) → SFcK m0 (XPcK m0 f o 1) hi xb r j n2 (mm + 1) c2 q2 S true → SGA m0 w0 K T nm Nk fof cvr lst g lo0 a0 cm0 q0 Q0 sc0 mS wS S x a cm q Q sc m w v2 v3 v4 v5 → 1 ≤ j → PP RR (bnd (jg_Cm_signs N (jrc_Cm_fun N D) k m v2 v3 v4 v5 (I (n : Nat))) fc) ((kg_M_worked N (krc_M_behind N d) M).2 w (I (Q0 83 : Nat))) := fun M k n x cc q S a cm Q sc m w v2 v3 v4 v5 n2 mm c2 q2 e h21 hs hS hj => by
      have hd := xp_hd e
      have sh := SF_hd2 hb hs
      have hnow := SGA_now hS
      have hlen := SGA_len hS
      have hmm : mm ≤ hi := by omega
      have k20 : K mm ≠ 20 := by
        rcases SF_end2 hs with z | z
        · have z : mm = hi := z
          rw [z]; exact hcl.1
        · have z : 1 ≤ rnkc (A m0 6 mm) := z
          rw [rnk_e c (by omega)] at z
          intro y
          rw [y] at z
          revert z; decide
      obtain ⟨v, hv, hv18⟩ := xp_kd e
      have fr := XCS_fr hnow.1
      have hn : n ≤ 8015 := by omega
      cases k with
      | zero => exact pp_nl
      | succ k =>
        show PP RR (bnd (jb_Cm_signs_13 N (jrc_Cm_fun N D) (jg_Cm_signs N (jrc_Cm_fun N D) k) m v2 v3 v4 v5 (I (n : Nat))) fc) _
        have dv : ∀ x : Nat, 19 ≤ x → x ≤ 30 → decide (I ((v : Nat) : Int) = I ((x : Nat) : Int)) = false := fun x h1 h2 => decide_eq_false (fun z => by
          have := (I_eq (x := ((v : Nat) : Int)) (y := ((x : Nat) : Int)) (by omega) (by omega) (by omega) (by omega)).mp z
          omega)
        unfold jb_Cm_signs_13
        rw [decide_eq_false (fun z => by
          have := (I_eq (x := ((n : Nat) : Int)) (y := 0) (by omega) (by omega) (by decide) (by decide)).mp z
          omega), br_fq, bnd_ck]
        refine l_ck (fun _ => ?_)
        rw [bnd_ck]
        refine l_ck (fun _ => ?_)
        rw [i_nt2 (show n ≤ 100000 by omega), tre fr (by decide) hv, show (24 : Int32) = I ((24 : Nat) : Int) from rfl, dv 24 (by omega) (by omega), br_fq]
        unfold jb_Cm_signs_82
        rw [show (24 : Int32) = I ((24 : Nat) : Int) from rfl, dv 24 (by omega) (by omega), br_fq, show (23 : Int32) = I ((23 : Nat) : Int) from rfl, dv 23 (by omega) (by omega), br_fq, bnd_as2]
        refine IU D d M o n x mm cc c2 q q2 (Q0 83) m w a cm Q sc g false RR _ e (by omega) (by omega) ⟨k20, by omega⟩ hnow.1 hnow.2.1 hnow.2.2 (by omega) (by omega) (fun M2 M3 m2 w2 rt hz => ?_)
        obtain ⟨b2, cm2, Q2, sc2, rn, f2, L, rfl, hrn, z3, z4, -⟩ := hz
        refine s198 (XCS_fr z3.2.1) hn h21 ?_
        exact ihA M2 M3 k n2 (mm + 1) c2 q2 S b2 cm2 Q2 sc2 m2 w2 v2 v3 v4 v5 rn hs (by omega) (SGA_ext hS (XTR_nl z3)) (by omega) (by omega) (Or.inr hj)
    refine ⟨fun M M' k n x cc q S a cm Q sc m w v2 v3 v4 v5 rn h hx0 hS hrn ha0 hok => ?_, fun M k n x cc q S a cm Q sc m w v2 v3 v4 v5 h hS h2 => ?_⟩
    · obtain ⟨y, rfl⟩ : ∃ y, x = y + 1 := ⟨x - 1, by omega⟩
      rw [show y + 1 - 1 = y from rfl] at hS ⊢
      obtain ⟨hn1, n2, x2, c2, q2, S2, g2, h1, h21, hs⟩ := h
      unfold STPcK at h1
      rw [show y + 1 - 1 = y from rfl] at h1
      have hnow := SGA_now hS
      have hlen := SGA_len hS
      have hyT : y ≤ T := hnow.2.1.1.2.1.2
      rcases h1 with ⟨⟨mm, e, rfl⟩, rfl, h3⟩ | ⟨⟨hx2, hc1, hc2, hq2⟩, -, h3⟩
      · rcases h3 with ⟨z, -⟩ | ⟨-, rfl, hr3, hcl3⟩
        · cases z
        · rw [rnk_e c hyT] at hr3
          have hj : 1 ≤ j := by
            rcases Nat.eq_zero_or_pos j with rfl | z
            · obtain ⟨-, -, -, -, z, -⟩ := hs
              cases z
            · exact z
          refine clo_ps c hS (by omega) hcl3 (ps_k c hnow.2.1 (by omega) (fun M2 w2 hp => ?_))
          rcases hp with ⟨-, hp⟩ | ⟨z, -⟩
          · refine unit M2 k n (y + 1) cc q (y :: S) a cm (qst Q 83 (Q 83 + 1)) sc m w2 v2 v3 v4 v5 n2 mm c2 q2 e h21 hs ?_ hj
            exact ⟨ord_c c hS hcl3, a, cm, q, Q, sc, m, w, w2, v2, v3, v4, v5, hS, Or.inl ⟨hr3, hp, XTR_rf hnow.1 hp.1 (by rw [qst_no (by decide)]; exact hnow.2.2), rfl, rfl, rfl, rfl⟩⟩
          · exfalso
            rcases z with z | z <;> (rw [z] at hr3; exact absurd hr3 (by decide))
      · rw [hx2, hc2, hq2] at hs
        have hle := SF_hd2 hb hs
        have hn : n ≤ 8015 := by omega
        have fr := XCS_fr hnow.1
        cases k with
        | zero => exact pp_nl
        | succ k =>
        show PP RR (bnd (jb_Cm_signs_13 N (jrc_Cm_fun N D) (jg_Cm_signs N (jrc_Cm_fun N D) k) m v2 v3 v4 v5 (I (n : Nat))) fc) _
        unfold jb_Cm_signs_13
        rw [decide_eq_false (fun z => by
          have := (I_eq (x := ((n : Nat) : Int)) (y := 0) (by omega) (by omega) (by decide) (by decide)).mp z
          omega), br_fq, bnd_ck]
        refine l_ck (fun _ => ?_)
        rw [bnd_ck]
        refine l_ck (fun _ => ?_)
        rw [i_nt2 (show n ≤ 100000 by omega)]
        rcases h3 with ⟨h16, h17, h18, hk, hcl3, rfl, rfl⟩ | ⟨h16, t, rfl, h17, h18, hpop, rfl⟩
        · 
          have hk' : K y = 6 ∨ K y = 16 := hk.imp (fun z => kA c hyT z) (fun z => kA c hyT z)
          have hr1 : 1 ≤ rkK (K y) := by rcases hk' with z | z <;> (rw [z]; decide)
          have two : ∀ x13 : Int32, x13 = (if K y = 6 then 13 else 14) → PP RR (bnd (jm_Co_put N m x13) (fun u39 r39 => bnd (bnd (jm_Co_hook N u39 0) (fun u42 r42 => if K y = 6 then jb_Cm_signs_198 N (jrc_Cm_fun N D) (jg_Cm_signs N (jrc_Cm_fun N D) k) u42 r42 (u42.1 706) v4 v5 (I (n : Nat)) else jb_Cm_signs_198 N (jrc_Cm_fun N D) (jg_Cm_signs N (jrc_Cm_fun N D) k) u42 v2 v3 r42 (u42.1 706) (I (n : Nat)))) fc)) (bnd (gg_M_reduce N M' w (I (Q0 83 : Nat)) (I (rkK (K y) : Nat)) (I (rn : Nat)) 1) (wkG N (krc_M_behind N d) M (I (Q0 83 : Nat)) (rkK (K y)))) := fun x13 hx13 => by
            have hC := hnow.1
            refine l_put hC.1.2.2.1.1 hC.1.2.2.1.2.2 (fun ha => ?_)
            have c1 := XCS_put (x := x13) hC ha
            unfold jm_Co_hook jb_Co_hook_0
            rw [bnd_as2, bnd_as2]
            refine l_put c1.1.2.2.1.1 c1.1.2.2.1.2.2 (fun ha1 => ?_)
            have c2 := XCS_put (x := 0) c1 ha1
            rw [bnd_s]
            have e441 : (ptc (ptc m a x13) (a + 1) 0).1 441 = I ((a + 2 : Nat) : Int) := c2.1.2.2.1.1
            have e706 : (ptc (ptc m a x13) (a + 1) 0).1 706 = I (tot sc : Nat) := c2.1.2.1.2.2.1
            rw [e441, e706, show ((a + 2 : Nat) : Int) = ((a + 1 + 1 : Nat) : Int) from rfl, I_sn]
            have em : ptc (ptc m a x13) (a + 1) 0 = ptcs m a [if K y = 6 then 13 else 14, 0] := by rw [hx13]; rfl
            rw [em] at c2 ⊢
            refine clo_ps c hS hr1 hcl3 (ps_k c hnow.2.1 hr1 (fun M2 w2 hp => ?_))
            rcases hp with ⟨z, -⟩ | ⟨-, hp, hg⟩
            · exfalso
              rcases hk' with y | y <;> (rw [y] at z; exact absurd z (by decide))
            have hx2 := XTR_rf (lst := lst) (K := K) (Nk := Nk) (fof := fof) (cvr := cvr) (q := q) c2 hp.1 (by rw [qst_no (by decide), qst_no (by decide)]; exact hnow.2.2)
            by_cases z : K y = 6
            · rw [if_pos z]
              refine s198 (XCS_fr c2) hn h21 (ihB M2 k n2 (y + 1) _ _ (y :: S) (a + 2) cm (qst (qst Q 32 (Q 32 + 1)) 83 (Q 83 + 1)) sc _ w2 _ _ v4 v5 hs ?_ (fun z => by cases z))
              exact ⟨ord_c c hS hcl3, a, cm, q, Q, sc, m, w, w2, v2, v3, v4, v5, hS, Or.inr ⟨hk', hp, hg, by omega, hx2, Or.inl ⟨z, rfl, rfl, rfl, rfl⟩⟩⟩
            · rw [if_neg z]
              refine s198 (XCS_fr c2) hn h21 (ihB M2 k n2 (y + 1) _ _ (y :: S) (a + 2) cm (qst (qst Q 32 (Q 32 + 1)) 83 (Q 83 + 1)) sc _ w2 v2 v3 _ _ hs ?_ (fun z => by cases z))
              exact ⟨ord_c c hS hcl3, a, cm, q, Q, sc, m, w, w2, v2, v3, v4, v5, hS, Or.inr ⟨hk', hp, hg, by omega, hx2, Or.inr ⟨hk'.resolve_left z, rfl, rfl, rfl, rfl⟩⟩⟩
          rw [tre fr (by decide) h16, show decide (I 24 = (24 : Int32)) = true from rfl, br_tq]
          rcases hk with z | z
          · have zk : K y = 6 := kA c hyT z
            have h18' : m.2.2.1 18 n = I 6 := tre fr (by decide) (h18.trans z)
            rw [h18', show decide (I 6 = (6 : Int32)) = true from rfl, br_tq, bnd_as2]
            have := two 13 (by rw [if_pos zk])
            simp only [if_pos zk] at this
            exact this
          · have zk : K y = 16 := kA c hyT z
            have h18' : m.2.2.1 18 n = I 16 := tre fr (by decide) (h18.trans z)
            rw [h18', show decide (I 16 = (6 : Int32)) = false from rfl, br_fq]
            unfold jb_Cm_signs_82
            rw [show decide (I 24 = (24 : Int32)) = true from rfl, br_tq, bnd_as2]
            have nk : ¬ K y = 6 := by omega
            have := two 14 (by rw [if_neg nk])
            simp only [if_neg nk] at this
            exact this
        · 
          obtain ⟨p, p1, p2, p3, p4, p5, p6, p7⟩ := SGA_top hS
          unfold POPk at hpop
          rw [rnk_e c p5, rnk_e c hyT] at hpop
          have k46 := c.2.1.1.k46 p5
          have r6 := rk6 (c.2.1.1.k46 hyT)
          have h18' : m.2.2.1 18 n = I (K t : Nat) := by
            have e : A m0 6 t = ((K t : Nat) : Int) := by
              show (m0.2.2.1 6 t).toInt = _
              rw [c.1.2 t p5]
              exact I_ti (by omega) (by omega)
            exact tre fr (by decide) (h18.trans e)
          rw [tre fr (by decide) h16, show decide (I 23 = (24 : Int32)) = false from rfl, br_fq]
          unfold jb_Cm_signs_82
          rw [show decide (I 23 = (24 : Int32)) = false from rfl, br_fq, show decide (I 23 = (23 : Int32)) = true from rfl, br_tq, h18']
          have hh : ∀ M' m3 v rn a3 cm3 Q3 sc3, a ≤ a3 → SGA m0 w0 K T nm Nk fof cvr lst g lo0 a0 cm0 q0 Q0 sc0 mS wS S2 y a3 cm3 q Q3 sc3 m3 v v2 v3 v4 v5 → (Q0 32 ≤ rn ∧ rn < Q3 32) → A v 28 rn = -1 → (A v 23 rn ≠ 12 ∧ A v 23 rn ≠ 13) → PP RR (bnd (jb_Cm_signs_198 N (jrc_Cm_fun N D) (jg_Cm_signs N (jrc_Cm_fun N D) k) m3 v2 v3 v4 v5 (I (n : Nat))) fc) (bnd (gg_M_reduce N M' v (I (Q0 83 : Nat)) (I (rkK (K y) : Nat)) (I (rn : Nat)) 1) (wkG N (krc_M_behind N d) M (I (Q0 83 : Nat)) (rkK (K y)))) := fun M' m3 v rn a3 cm3 Q3 sc3 ha3 hS3 hrn3 h28 h23 => by
            refine s198 (XCS_fr (SGA_now hS3).1) hn h21 ?_
            have := ihA M M' k n2 (y + 1) n _ S2 a3 cm3 Q3 sc3 m3 v v2 v3 v4 v5 rn hs (by omega) hS3 hrn3 (by omega) (Or.inl ⟨h28, h23⟩)
            exact this
          have nk4 : K t < 46 := k46
          by_cases z6 : K t = 6
          · rw [z6, show decide (I ((6 : Nat) : Int) = (6 : Int32)) = true from rfl, br_tq, bnd_as2]
            have := pop_h (N := N) (M := M') (r0 := I (rn : Nat)) (F := wkG N (krc_M_behind N d) M (I (Q0 83 : Nat)) (rkK (K y))) (fc := fun u _ => bnd (jb_Cm_signs_198 N (jrc_Cm_fun N D) (jg_Cm_signs N (jrc_Cm_fun N D) k) u v2 v3 v4 v5 (I (n : Nat))) fc) c hS (Or.inl z6) (by omega) hh
            rw [if_pos z6, if_pos z6] at this
            simp only [bnd_as2]
            exact this
          by_cases z16 : K t = 16
          · rw [z16, show decide (I ((16 : Nat) : Int) = (6 : Int32)) = false from rfl, br_fq, show decide (I ((16 : Nat) : Int) = (16 : Int32)) = true from rfl, br_tq, bnd_as2]
            have := pop_h (N := N) (M := M') (r0 := I (rn : Nat)) (F := wkG N (krc_M_behind N d) M (I (Q0 83 : Nat)) (rkK (K y))) (fc := fun u _ => bnd (jb_Cm_signs_198 N (jrc_Cm_fun N D) (jg_Cm_signs N (jrc_Cm_fun N D) k) u v2 v3 v4 v5 (I (n : Nat))) fc) c hS (Or.inr z16) (by omega) hh
            rw [if_neg z6, if_neg z6] at this
            simp only [bnd_as2]
            exact this
          have r3 : 3 ≤ rkK (K t) := by omega
          rw [decide_eq_false (fun z => z6 (by
            have := (I_eq (x := ((K t : Nat) : Int)) (y := 6) (by omega) (by omega) (by decide) (by decide)).mp z
            omega)), br_fq, decide_eq_false (fun z => z16 (by
            have := (I_eq (x := ((K t : Nat) : Int)) (y := 16) (by omega) (by omega) (by decide) (by decide)).mp z
            omega)), br_fq, bnd_ck]
          refine l_ck (fun _ => ?_)
          rw [i_nt2 (show n ≤ 100000 by omega), tre fr (by decide) h17, bnd_as2]
          exact pop_t c hS r3 r6 (by omega) (fun M' m3 v Q3 => hh M' m3 v (Q 32) (a + 2) cm Q3 sc (by omega))
    · obtain ⟨hn1, n2, x2, c2, q2, S2, g2, h1, h21, hs⟩ := h
      rcases h1 with ⟨⟨mm, e, rfl⟩, rfl, h3⟩ | ⟨-, z, -⟩
      · rcases h3 with ⟨-, rfl⟩ | ⟨z, -⟩
        · refine unit M k n x cc q _ a cm Q sc m w v2 v3 v4 v5 n2 mm c2 q2 e h21 hs hS ?_
          rcases Nat.eq_zero_or_pos j with rfl | z
          · obtain ⟨-, -, -, -, z, -⟩ := hs
            have := h2 z
            omega
          · exact z
        · cases z
      · cases z
end
end
section
set_option maxRecDepth 100000
def HXW (N : Nat) (m0 w0 : MS) (K : Nat → Nat) (T : Nat) (nm Nk : Nat → Nat) (fof cvr : Int → Int → Int) (f : Nat) : Prop := ∀ (D d o n lo hi xa xb q r : Nat) (m w : MS) (a cm : Nat) (Q : Nat → Nat) (sc : SCT) (g lst : Bool) (RR : MS → Unit → MS → Int32 → Prop) (fc : MS → Unit → Option (MS × Unit)), XPcK m0 f o 2 n lo hi xa xb q r → xb ≤ 8015 → r ≤ 400 → (K hi ≠ 20 ∧ hi ≤ T ∧ rkK (K hi) = 0) → XCS m0 nm m a cm sc g → XRS w0 T w lo Q sc → Q 56 = q → (tot sc + (hi - lo) ≤ 4000 ∧ sc.length ≤ o + 1) → (∀ m2 w2 rt, XZ m0 w0 K T nm Nk fof cvr lst g lo hi a cm q r Q sc m w m2 () w2 rt → PP RR (fc m2 ()) (some (w2, rt))) → PP RR (bnd ((jrc_Cm_fun N D).2.2.2.2.2.2.2.2.2.2.1 m (I (n : Nat)) (lsI lst)) fc) (km_M_worked N (krc_M_behind N d) w)
section
variable {α β : Type} {m0 w0 m w m2 w2 m3 w3 v u w1 mS wS : MS} {K nm Nk W W2 : Nat → Nat} {N T D d o a a0 b b0 c cm cm0 cm2 cm3 q q0 r s lo lo0 mid hi i j f f2 n k kk p p2 σ tk x xa xb cc M M' m1 lv y t tok : Nat} {Q Q0 Q2 Q3 Q4 : Nat → Nat} {sc sc0 sc2 sc3 : SCT} {g lst l2 : Bool} {L L1 L2 S : List Nat} {idc fof cvr : Int → Int → Int} {z : Unit} {rt v1 v2 v3 v4 v5 r0 : Int32} {fc : MS → Unit → Option (MS × Unit)} {RR : MS → Unit → MS → Int32 → Prop} {A' : Option (MS × Unit)} {B' : Option (MS × Int32)} {F : MS → Int32 → Option (MS × Int32)} {E : Nat → Nat → Nat → Nat → Nat → Nat → Nat → Prop}
theorem xp_1 {u : MS} {q r hi lo n f : Nat} (h : XPcK u f o 2 n lo hi a b q r) (n22 : A u 16 n ≠ 22) : XPcK u f o 1 n lo hi a b q r := by
  cases f with
  | zero => exact h.elim
  | succ f =>
    obtain ⟨h1, h2, h3, h4⟩ := h
    refine ⟨h1, h2, h3, ?_⟩
    rcases h4 with h | h | h | h | h | h | h | h | h | h | h | h | h | h | h | h | h
    · exact Or.inl h
    · exact Or.inr (Or.inl h)
    · exact Or.inr (Or.inr (Or.inl h))
    · exact Or.inr (Or.inr (Or.inr (Or.inl h)))
    · exact Or.inr (Or.inr (Or.inr (Or.inr (Or.inl h))))
    · exact Or.inr (Or.inr (Or.inr (Or.inr (Or.inr (Or.inl h)))))
    · exact Or.inr (Or.inr (Or.inr (Or.inr (Or.inr (Or.inr (Or.inl h))))))
    · exact Or.inr (Or.inr (Or.inr (Or.inr (Or.inr (Or.inr (Or.inr (Or.inl h)))))))
    · exact Or.inr (Or.inr (Or.inr (Or.inr (Or.inr (Or.inr (Or.inr (Or.inr (Or.inl h))))))))
    · exact Or.inr (Or.inr (Or.inr (Or.inr (Or.inr (Or.inr (Or.inr (Or.inr (Or.inr (Or.inl h)))))))))
    · exact Or.inr (Or.inr (Or.inr (Or.inr (Or.inr (Or.inr (Or.inr (Or.inr (Or.inr (Or.inr (Or.inl h))))))))))
    · exact Or.inr (Or.inr (Or.inr (Or.inr (Or.inr (Or.inr (Or.inr (Or.inr (Or.inr (Or.inr (Or.inr (Or.inl ⟨h.1, Nat.le_refl _, h.2.2⟩)))))))))))
    · exact Or.inr (Or.inr (Or.inr (Or.inr (Or.inr (Or.inr (Or.inr (Or.inr (Or.inr (Or.inr (Or.inr (Or.inr (Or.inl ⟨h.1, Nat.le_refl _, h.2.2⟩))))))))))))
    · exact absurd h.2.1 (by decide)
    · exact absurd h.2.1 (by decide)
    · exact absurd h.2.1 (by decide)
    · exact absurd h.1 n22
theorem wk_0 {S : SG_M_behind} (hR : XRS w0 T w lo Q sc) (h : ∀ M, PP RR A' ((kg_M_worked N S M).2 w (I (Q 83 : Nat)))) : PP RR A' (km_M_worked N S w) := by
  have h83 := hR.2 83 (by decide)
  unfold km_M_worked kb_M_worked_0
  cases N with
  | zero => exact pp_nr
  | succ N =>
    show PP RR A' (kb_M_worked_9 (N + 1) S (kg_M_worked (N + 1) S N) w (w.1 83) (-1) 1)
    unfold kb_M_worked_9
    rw [show decide ((1 : Int32) = 0) = false from rfl, br_fq, decide_eq_true hR.1.2.2.1, br_tq, h83.1]
    exact h N
theorem x_wk1 (c : CTZ m0 w0 K T nm Nk) (I1 : HXU N m0 w0 K T nm Nk fof cvr f) (hE : XPcK m0 f o 1 n lo hi xa xb q r) (hxb : xb ≤ 8015) (hr4 : r ≤ 400) (hcl : K hi ≠ 20 ∧ hi ≤ T ∧ rkK (K hi) = 0) (hC : XCS m0 nm m a cm sc g) (hR : XRS w0 T w lo Q sc) (hq : Q 56 = q) (htot : tot sc + (hi - lo) ≤ 4000 ∧ sc.length ≤ o + 1) (hh : ∀ m2 w2 rt, XZ m0 w0 K T nm Nk fof cvr lst g lo hi a cm q r Q sc m w m2 () w2 rt → PP RR (fc m2 ()) (some (w2, rt))) : PP RR (bnd ((jrc_Cm_fun N D).2.2.2.2.2.2.2.2.2.2.1 m (I (n : Nat)) (lsI lst)) fc) (km_M_worked N (krc_M_behind N d) w) := by
  refine wk_0 hR (fun M => ?_)
  refine I1 D d M o n lo hi xa xb q r (Q 83) m w a cm Q sc g lst RR fc hE hxb hr4 ⟨hcl.1, hcl.2.1⟩ hC hR hq htot (Nat.le_refl _) (fun M2 M3 m2 w2 rt hz => ?_)
  have h := hh m2 w2 rt hz
  obtain ⟨b2, cm2, Q2, sc2, rn, f2, L, rfl, hrn, ht, -⟩ := hz
  have h83 := ht.2.2.1.1.2 83 (by decide)
  have e83 : Q2 83 = Q 83 := ht.2.2.2.2.2.2.1.2.2.2.2
  rw [e83] at h83
  rw [hcl.2.2]
  refine rdc_0 h83.1 h83.2 ?_
  unfold wkG
  rw [if_pos rfl]
  exact h
theorem x_wk (c : CTZ m0 w0 K T nm Nk) (I1 : HXU N m0 w0 K T nm Nk fof cvr (f + 1)) (IU : HXU N m0 w0 K T nm Nk fof cvr f) : HXW N m0 w0 K T nm Nk fof cvr (f + 1) := by
  intro D d o n lo hi xa xb q r m w a cm Q sc g lst RR fc hE hxb hr4 hcl hC hR hq htot hh
  by_cases z22 : A m0 16 n = 22
  · have t4 := c.2.1.1.1
    have hd := xp_hd hE
    have fr := XCS_fr hC
    have hn : n ≤ 8015 := by omega
    have h4 := hE.2.2.2
    rcases h4 with h | h | h | h | h | h | h | h | h | h | h | h | h | h | h | h | h
    · have := h.1.1; have := h.1.2.1; omega
    · have := h.1; omega
    · have := h.1; omega
    · have := h.1; omega
    · have := h.1; omega
    · have := h.1; omega
    · have := h.1; omega
    · have := h.1; omega
    · have := h.1; omega
    · have := h.1; omega
    · have := h.1; omega
    · have := h.1; omega
    · rcases h.1 with z | z <;> omega
    · have := h.1; omega
    · have := h.1; omega
    · have := h.1; omega
    · obtain ⟨-, -, j, x, c1, h18, hs, hc1, hj⟩ := h
      refine wk_0 hR (fun M => ?_)
      cases D with
      | zero => exact pp_nl
      | succ D =>
      refine pp_lb ?_
      show PP _ (jm_Cm_expression N (jrc_Cm_fun N D) m (I (n : Nat)) (lsI lst)) _
      refine exd_22 hn (tre fr (by decide) z22) ?_
      rw [tre fr (by decide) h18]
      refine l_ck (fun _ => l_id ?_)
      cases D with
      | zero => exact pp_nl
      | succ D =>
      show PP _ (jm_Cm_signs N (jrc_Cm_fun N D) m (I (x : Nat))) _
      unfold jm_Cm_signs jb_Cm_signs_0
      have hS : SGA m0 w0 K T nm Nk fof cvr lst g lo a cm q Q sc m w [] lo a cm q Q sc m w 0 0 0 0 := XTR_rf hC hR hq
      have e : ∀ m w a2 cm2 Q2 sc2 rn, a < a2 → XTR m0 w0 K T nm Nk fof cvr lst g [] lo hi a a2 cm cm2 q r Q Q2 sc sc2 _ _ m w → (Q 32 ≤ rn ∧ rn < Q2 32) → A w 28 rn = -1 → (A w 23 rn ≠ 12 ∧ A w 23 rn ≠ 13) → PP (fun m z w r => PK (fun v q => RR v q w r) (fc m z)) (some (m, ())) (some (w, I (rn : Nat))) := fun m2 w2 a2 cm2 Q2 sc2 rn ha ht hrn h28 h23 => pp_lx (hh m2 w2 (I (rn : Nat)) ⟨a2, cm2, Q2, sc2, rn, 2, [], rfl, hrn, ht, ⟨ha, by omega⟩, RTd_1 h28 h23 rfl hrn, fun n hn => by cases hn⟩)
      have := (sgn_x (N := N) (D := D) (d := d) (o := o) (fc := fun u _ => some (u, ())) (RR := fun m z w r => PK (fun v q => RR v q w r) (fc m z)) c IU (by omega) hr4 hcl htot e j).2 M N x lo xa q [] a cm Q sc m w 0 0 0 0 hs hS (fun _ => hj)
      rw [show ∀ X : Option (MS × Unit), bnd X (fun u _ => some (u, ())) = X from fun X => by cases X <;> rfl] at this
      exact this
  · exact x_wk1 c I1 (xp_1 hE z22) hxb hr4 hcl hC hR hq htot hh
end
end
section
set_option maxRecDepth 100000
def HXS (N : Nat) (m0 w0 : MS) (K : Nat → Nat) (T : Nat) (nm Nk : Nat → Nat) (fof cvr : Int → Int → Int) (f : Nat) : Prop := ∀ (D d o n lo hi xa xb q r : Nat) (m w : MS) (a cm : Nat) (Q : Nat → Nat) (sc : SCT) (g lst : Bool), XPcK m0 f o 3 n lo hi xa xb q r → A m0 6 lo ≠ 9 → xb ≤ 8015 → r ≤ 400 → (NEC (K hi) ∧ hi ≤ T) → XCS m0 nm m a cm sc g → XRS w0 T w lo Q sc → Q 56 = q → (tot sc + (hi - lo) ≤ 4000 ∧ sc.length ≤ o + 1) → PP (XZ m0 w0 K T nm Nk fof cvr lst g lo hi a cm q r Q sc m w) ((jrc_Cm_fun N D).2.2.2.2.2.2.2.2.2.2.1 m (I (n : Nat)) (lsI lst)) (km_M_simple N (krc_M_behind N d) w)
def HXM (N : Nat) (m0 w0 : MS) (K : Nat → Nat) (T : Nat) (nm Nk : Nat → Nat) (fof cvr : Int → Int → Int) (f : Nat) : Prop := ∀ (D d o n lo hi xa xb q r : Nat) (m w : MS) (a cm : Nat) (Q : Nat → Nat) (sc : SCT) (g lst : Bool), XPcK m0 f o 3 n lo hi xa xb q r → A m0 16 n = 20 → xb ≤ 8015 → r ≤ 400 → (NEC (K hi) ∧ hi ≤ T) → XCS m0 nm m a cm sc g → XRS w0 T w lo Q sc → Q 56 = q → (tot sc + (hi - lo) ≤ 4000 ∧ sc.length ≤ o + 1) → PP (XZ m0 w0 K T nm Nk fof cvr lst g lo hi a cm q r Q sc m w) ((jrc_Cm_fun N D).2.2.2.2.2.2.2.2.2.2.1 m (I (n : Nat)) (lsI lst)) (km_M_simple N (krc_M_behind N d) w)
section
variable {α β : Type} {m0 w0 m w m2 w2 m3 w3 v u w1 mS wS : MS} {K nm Nk W W2 : Nat → Nat} {N T D d o a a0 b b0 c cm cm0 cm2 cm3 q q0 r s lo lo0 mid hi i j f f2 n k kk p p2 σ tk x xa xb cc M M' m1 lv y t tok : Nat} {Q Q0 Q2 Q3 Q4 Qa : Nat → Nat} {sc sc0 sc2 sc3 : SCT} {g lst l2 : Bool} {L L1 L2 S : List Nat} {idc fof cvr : Int → Int → Int} {z : Unit} {rt v1 v2 v3 v4 v5 r0 : Int32} {fc : MS → Unit → Option (MS × Unit)} {RR : MS → Unit → MS → Int32 → Prop} {A' : Option (MS × Unit)} {B' : Option (MS × Int32)}
theorem XTR_mk (h : XTR m0 w0 K T nm Nk fof cvr lst g L lo hi a b cm cm2 q r Qa Q2 sc sc2 m w1 m2 w2) (hq1 : ∀ k, k ≠ 75 → k ≠ 77 → k ≠ 83 → Qa k = Q k) (hle : QLE Q Qa) (hQ : QRR Q w w1) (hq2 : ∀ k, k ≠ 75 → k ≠ 77 → k ≠ 83 → Q3 k = Q2 k) (hq3 : Q3 75 = Q 75 ∧ Q3 77 = Q 77 ∧ Q3 83 = Q 83) (hv : XRS w0 T v hi Q3 sc2) (hv2 : v.2 = w2.2) : XTR m0 w0 K T nm Nk fof cvr lst g L lo hi a b cm cm2 q r Q Q3 sc sc2 m w m2 v := by
  obtain ⟨a1, a2, a3, a4, a5, a7, a8, a9, a10, a11⟩ := h
  obtain ⟨v1, vr⟩ := v
  have hv2 : vr = w2.2 := hv2
  subst hv2
  have e1 := hq1
  have e2 := hq2
  refine ⟨a1, a2, ⟨hv, by rw [e2 56 (by decide) (by decide) (by decide)]; exact a3.2⟩, a4, a5, a7, ⟨?_, fun k hk => ?_, hq3⟩, a9, fun n hn => ?_, fun C P R J H fi hx => ?_⟩
  · exact QRR_e (QRR_tr (Q2 := Qa) hQ a8.1 hle) rfl rfl
  · by_cases z : k = 75 ∨ k = 77 ∨ k = 83
    · rcases z with rfl | rfl | rfl
      · exact Nat.le_of_eq hq3.1.symm
      · exact Nat.le_of_eq hq3.2.1.symm
      · exact Nat.le_of_eq hq3.2.2.symm
    · rw [e2 k (by omega) (by omega) (by omega)]
      have := a8.2.1 k hk
      rw [e1 k (by omega) (by omega) (by omega)] at this
      exact this
  · have := a10 n hn
    rw [e1 32 (by decide) (by decide) (by decide)] at this
    rw [e2 32 (by decide) (by decide) (by decide)]
    exact this
  · obtain ⟨g1, g2, g3, ⟨g4, g5, g6, g7⟩, g8⟩ := fi
    rw [e2 32 (by decide) (by decide) (by decide)] at g5 g6 g8
    rw [e2 39 (by decide) (by decide) (by decide)] at g7
    have in83 : ∀ k, grp k ∈ [32, 39, 46, 56, 58] → grp k ≠ 75 ∧ grp k ≠ 77 ∧ grp k ≠ 83 := fun k hk => ⟨fun z => by rw [z] at hk; revert hk; decide, fun z => by rw [z] at hk; revert hk; decide, fun z => by rw [z] at hk; revert hk; decide⟩
    have := a11 C P R J H ⟨g1, g2, g3, ⟨fun k n z1 z2 z3 z4 z5 z6 z7 => g4 k n z1 z2 z3 z4 z5 (by rw [e1 _ (in83 k z5).1 (in83 k z5).2.1 (in83 k z5).2.2] at z6; exact z6) (by rw [e2 _ (in83 k z5).1 (in83 k z5).2.1 (in83 k z5).2.2]; exact z7), by rw [e1 32 (by decide) (by decide) (by decide)]; exact g5, by rw [e1 32 (by decide) (by decide) (by decide)]; exact g6, by rw [e1 39 (by decide) (by decide) (by decide)]; exact g7⟩, by rw [e1 32 (by decide) (by decide) (by decide)]; exact g8⟩ hx
    rw [e1 32 (by decide) (by decide) (by decide)] at this
    rw [e2 32 (by decide) (by decide) (by decide)]
    exact this
def QSV (Q : Nat → Nat) : Nat → Nat := qst (qst Q 75 (Q 75 + 8)) 77 (Q 77 + 54)
theorem QSV_n {k : Nat} (h1 : k ≠ 75) (h2 : k ≠ 77) : QSV Q k = Q k := (qst_no h2).trans (qst_no h1)
theorem QSV_75 : QSV Q 75 = Q 75 + 8 := (qst_no (by decide)).trans qst_at
theorem QSV_77 : QSV Q 77 = Q 77 + 54 := qst_at
theorem QSV_le : QLE Q (QSV Q) := fun k _ => by
  by_cases h1 : k = 75
  · rw [h1, QSV_75]; omega
  by_cases h2 : k = 77
  · rw [h2, QSV_77]; omega
  rw [QSV_n h1 h2]; exact Nat.le_refl _
theorem sv_x {F : MS → Unit → Option (MS × β)} {R : MS → α → MS → β → Prop} {X : Option (MS × α)} (hR : XRS w0 T w p Q sc) (h : ∀ v, XRS w0 T v p (QSV Q) sc → QRR Q w v → PP R X (F v ())) : PP R X (bnd (fm_M_save N w) F) := by
  intro m9 z9 w9 r9 x1 x2
  refine (pk_bnd (Q := fun w9 r9 => R m9 z9 w9 r9) (pk_mo (pk_andq (save_p hR.1.2.2.2.1) (Q2 := fun v _ => Kv9c w v) (fun v r e => yv9_fm_M_save Kv9_rf v r e)) (fun v z hz => ?_))) w9 r9 x2
  obtain ⟨⟨a, b, ⟨s1, s2, s3, s4⟩, ⟨s5, s6⟩, s7, s8, s9, s10, -⟩, k1, -⟩ := hz
  have q75 := hR.2 75 (by decide)
  have q77 := hR.2 77 (by decide)
  have ea : a = Q 75 := by
    have := (I_eq (x := ((a : Nat) : Int)) (y := ((Q 75 : Nat) : Int)) (by omega) (by omega) (by omega) (by omega)).mp (s1.symm.trans q75.1)
    omega
  have eb : b = Q 77 := by
    have := (I_eq (x := ((b : Nat) : Int)) (y := ((Q 77 : Nat) : Int)) (by omega) (by omega) (by omega) (by omega)).mp (s2.symm.trans q77.1)
    omega
  subst ea
  subst eb
  refine fun w9 r9 x2 => h v ⟨?_, fun k hk => ?_⟩ ⟨fun k z1 z2 z3 => ?_, fun k n z1 z2 => ?_, fun k n _ => by rw [k1]⟩ m9 z9 w9 r9 x1 x2
  · rw [QSV_n (by decide) (by decide)]
    exact PRS_x hR.1 (fun k hk => s7 k (by rintro rfl; revert hk; decide) (by rintro rfl; revert hk; decide)) (fun k hk => s8 k (by omega) (by omega)) (by rw [s7 69 (by decide) (by decide)]; exact hR.1.2.1.1)
  · by_cases h1 : k = 75
    · rw [h1, QSV_75]; exact ⟨s5, by omega⟩
    by_cases h2 : k = 77
    · rw [h2, QSV_77]; exact ⟨s6, by omega⟩
    rw [QSV_n h1 h2, s7 k h1 h2]; exact hR.2 k hk
  · exact s8 k (fun e => by rw [e] at z1; exact absurd z1 (by decide)) (fun e => by rw [e] at z1; exact absurd z1 (by decide))
  · by_cases h1 : k = 74
    · subst h1; exact s9 n z2
    by_cases h2 : k = 76
    · subst h2; exact s10 n z2
    rw [s8 k h1 h2]
theorem fgs_x {F : MS → Unit → Option (MS × β)} {R : MS → β → Prop} (hR : XRS w0 T w p Q2 sc) (hq : Q2 75 = Q 75 + 8 ∧ Q2 77 = Q 77 + 54) (h : ∀ v, XRS w0 T v p (qst (qst Q2 75 (Q 75)) 77 (Q 77)) sc → v.2 = w.2 → PK R (F v ())) : PK R (bnd (fm_M_forgetSaved N w) F) := by
  have q75 := hR.2 75 (by decide)
  have q77 := hR.2 77 (by decide)
  rw [hq.1] at q75
  rw [hq.2] at q77
  have e1 : w.1 75 - 8 = I (Q 75 : Nat) := by rw [q75.1]; exact (I_mn (a := Q 75 + 8) (c := 8) (by omega) rfl).trans (by congr 2)
  have e2 : (upI w 75 (I (Q 75 : Nat))).1 77 - 54 = I (Q 77 : Nat) := by rw [upI_ne (by decide), q77.1]; exact (I_mn (a := Q 77 + 54) (c := 54) (by omega) rfl).trans (by congr 2)
  show PK R (bnd (fb_M_forgetSaved_0 N () w) F)
  unfold fb_M_forgetSaved_0
  rw [e1, bnd_lt, lt_e, e2, bnd_lt, lt_e, bnd_s]
  refine h _ ⟨?_, QMK_st (QMK_st hR.2 (by omega)) (by omega)⟩ rfl
  rw [qst_no (by decide), qst_no (by decide)]
  exact PRS_x hR.1 (fun k hk => by rw [upI_ne (by rintro rfl; revert hk; decide), upI_ne (by rintro rfl; revert hk; decide)]) (fun _ _ => rfl) (by rw [upI_ne (by decide), upI_ne (by decide)]; exact hR.1.2.1.1)
theorem XZ_mk (hz : XZ m0 w0 K T nm Nk fof cvr lst g lo hi a cm q r (QSV Q) sc m w1 m2 z w2 rt) (hQ : QRR Q w w1) {F : MS → Unit → Option (MS × Int32)} (hF : ∀ v, F v () = some (v, rt)) : PK (fun v r0 => XZ m0 w0 K T nm Nk fof cvr lst g lo hi a cm q r Q sc m w m2 z v r0) (bnd (fm_M_forgetSaved N w2) F) := by
  obtain ⟨b, cm3, Q3, sc3, rn, f, L, z1, z2, z3, z4, z5, z6⟩ := hz
  have hm := z3.2.2.2.2.2.2.1.2.2
  rw [QSV_75, QSV_77, QSV_n (by decide) (by decide)] at hm
  refine fgs_x z3.2.2.1.1 ⟨hm.1, hm.2.1⟩ (fun v hv hv2 => ?_)
  rw [hF v]
  have e2 : ∀ k, k ≠ 75 → k ≠ 77 → qst (qst Q3 75 (Q 75)) 77 (Q 77) k = Q3 k := fun k h1 h2 => (qst_no h2).trans (qst_no h1)
  have e32 := e2 32 (by decide) (by decide)
  rw [QSV_n (by decide) (by decide)] at z2 z5
  have hx := XTR_mk (Q := Q) (w := w) (Q3 := qst (qst Q3 75 (Q 75)) 77 (Q 77)) (v := v) z3 (fun k h1 h2 _ => QSV_n h1 h2) QSV_le hQ (fun k h1 h2 _ => e2 k h1 h2) ⟨(qst_no (by decide)).trans qst_at, qst_at, (e2 83 (by decide) (by decide)).trans hm.2.2⟩ hv hv2
  obtain ⟨v1, vr⟩ := v
  have hv2 : vr = w2.2 := hv2
  subst hv2
  exact pk_some ⟨b, cm3, _, sc3, rn, f, L, z1, by rw [e32]; exact z2, hx, z4, by rw [e32]; exact (RT_fr (w := w2) (v := (v1, w2.2)) f).2 _ rn L (fun _ _ _ => ⟨rfl, rfl⟩) (fun _ _ _ => rfl) z5, z6⟩
theorem bnd_idl {X : Option (MS × Unit)} : bnd X (fun u _ => some (u, ())) = X := by cases X <;> rfl
end
end
section
set_option maxRecDepth 100000
section
variable {α β : Type} {m0 w0 m w m2 w2 m3 w3 v u w1 mS wS : MS} {K nm Nk W W2 : Nat → Nat} {N T D d o a a0 b b0 c cm cm0 cm2 cm3 q q0 r s lo lo0 mid hi i j f f2 n k kk p p2 σ tk x xa xb cc M M' m1 lv y t tok : Nat} {Q Q0 Q2 Q3 Q4 Qa : Nat → Nat} {sc sc0 sc2 sc3 : SCT} {g lst l2 : Bool} {L L1 L2 S : List Nat} {idc fof cvr : Int → Int → Int} {z : Unit} {rt v1 v2 v3 v4 v5 r0 : Int32} {fc : MS → Unit → Option (MS × Unit)} {RR : MS → Unit → MS → Int32 → Prop} {A' : Option (MS × Unit)} {B' : Option (MS × Int32)}
theorem xp_2 {u : MS} {q r hi lo n f : Nat} (h : XPcK u f o 3 n lo hi a b q r) (n19 : A u 16 n ≠ 19) (n20 : A u 16 n ≠ 20) (n21 : A u 16 n ≠ 21) : XPcK u f o 2 n lo hi a b q r := by
  cases f with
  | zero => exact h.elim
  | succ f =>
    obtain ⟨h1, h2, h3, h4⟩ := h
    refine ⟨h1, h2, h3, ?_⟩
    rcases h4 with h | h | h | h | h | h | h | h | h | h | h | h | h | h | h | h | h
    · exact Or.inl h
    · exact Or.inr (Or.inl h)
    · exact Or.inr (Or.inr (Or.inl h))
    · exact Or.inr (Or.inr (Or.inr (Or.inl h)))
    · exact Or.inr (Or.inr (Or.inr (Or.inr (Or.inl h))))
    · exact Or.inr (Or.inr (Or.inr (Or.inr (Or.inr (Or.inl h)))))
    · exact Or.inr (Or.inr (Or.inr (Or.inr (Or.inr (Or.inr (Or.inl h))))))
    · exact Or.inr (Or.inr (Or.inr (Or.inr (Or.inr (Or.inr (Or.inr (Or.inl h)))))))
    · exact Or.inr (Or.inr (Or.inr (Or.inr (Or.inr (Or.inr (Or.inr (Or.inr (Or.inl h))))))))
    · exact Or.inr (Or.inr (Or.inr (Or.inr (Or.inr (Or.inr (Or.inr (Or.inr (Or.inr (Or.inl h)))))))))
    · exact Or.inr (Or.inr (Or.inr (Or.inr (Or.inr (Or.inr (Or.inr (Or.inr (Or.inr (Or.inr (Or.inl h))))))))))
    · exact Or.inr (Or.inr (Or.inr (Or.inr (Or.inr (Or.inr (Or.inr (Or.inr (Or.inr (Or.inr (Or.inr (Or.inl ⟨h.1, by omega, h.2.2⟩)))))))))))
    · exact Or.inr (Or.inr (Or.inr (Or.inr (Or.inr (Or.inr (Or.inr (Or.inr (Or.inr (Or.inr (Or.inr (Or.inr (Or.inl ⟨h.1, by omega, h.2.2⟩))))))))))))
    · exact absurd h.1 n19
    · exact absurd h.1 n20
    · exact absurd h.1 n21
    · exact Or.inr (Or.inr (Or.inr (Or.inr (Or.inr (Or.inr (Or.inr (Or.inr (Or.inr (Or.inr (Or.inr (Or.inr (Or.inr (Or.inr (Or.inr (Or.inr ⟨h.1, Nat.le_refl _, h.2.2⟩)))))))))))))))
theorem x_smp1 (c : CTZ m0 w0 K T nm Nk) (IW : HXW N m0 w0 K T nm Nk fof cvr f) (hE : XPcK m0 f o 2 n lo hi xa xb q r) (hxb : xb ≤ 8015) (hr4 : r ≤ 400) (hcl : NEC (K hi) ∧ hi ≤ T) (hC : XCS m0 nm m a cm sc g) (hR : XRS w0 T w lo Q sc) (hq : Q 56 = q) (htot : tot sc + (hi - lo) ≤ 4000 ∧ sc.length ≤ o + 1) : PP (XZ m0 w0 K T nm Nk fof cvr lst g lo hi a cm q r Q sc m w) ((jrc_Cm_fun N D).2.2.2.2.2.2.2.2.2.2.1 m (I (n : Nat)) (lsI lst)) (km_M_simple N (krc_M_behind N d) w) := by
  unfold km_M_simple kb_M_simple_0
  refine sv_x hR (fun v hX hQ => ?_)
  cases d with
  | zero => exact pp_nr
  | succ d =>
  have := IW D d o n lo hi xa xb q r m v a cm (QSV Q) sc g lst (XZ m0 w0 K T nm Nk fof cvr lst g lo hi a cm q r (QSV Q) sc m v) (fun u _ => some (u, ())) hE hxb hr4 ⟨hcl.1.2.1, hcl.2, hcl.1.1⟩ hC hX (by rw [QSV_n (by decide) (by decide)]; exact hq) htot (fun m2 w2 rt hz => pp_end hz)
  rw [bnd_idl] at this
  refine pp_rb (pp_mo this (fun m2 z w2 rt hz => ?_))
  obtain ⟨Q2, sc2, hX2⟩ := XZ_pr hz
  unfold kb_M_simple_39 kb_M_simple_97
  rw [decide_eq_true hX2.1.2.2.1, br_tq, isS_e (k := 30) (s := 11) (XRS_wp c hX2) (by decide) rfl, if_neg hcl.1.2.2.1, bnd_s, show decide ((0 : Int32) = 0) = true from rfl, br_tq, decide_eq_true hX2.1.2.2.1, br_tq, isS_e (k := 36) (s := 21) (XRS_wp c hX2) (by decide) rfl, if_neg hcl.1.2.2.2, bnd_s, show decide ((0 : Int32) = 0) = true from rfl, br_tq]
  exact XZ_mk hz hQ (fun v => rfl)
theorem x_bh (c : CTZ m0 w0 K T nm Nk) (IS : HXS N m0 w0 K T nm Nk fof cvr f) (hE : XPcK m0 f o 3 n lo hi xa xb q r) (h9 : A m0 6 lo ≠ 9) (hxb : xb ≤ 8015) (hr4 : r ≤ 400) (hcl : NEC (K hi) ∧ hi ≤ T) (hC : XCS m0 nm m a cm sc g) (hR : XRS w0 T w lo Q sc) (hq : Q 56 = q) (htot : tot sc + (hi - lo) ≤ 4000 ∧ sc.length ≤ o + 1) : PP (XZ m0 w0 K T nm Nk fof cvr lst g lo hi a cm q r Q sc m w) ((jrc_Cm_fun N D).2.2.2.2.2.2.2.2.2.2.1 m (I (n : Nat)) (lsI lst)) ((krc_M_behind N d).1 w) := by
  cases d with
  | zero => exact pp_nr
  | succ d =>
  show PP _ _ (km_M_behind N (krc_M_behind N d) w)
  unfold km_M_behind kb_M_behind_0
  rw [decide_eq_true hR.1.2.2.1, br_tq, bU_m (XRS_wp c hR), bnd_s]
  cases bUK (K lo) with
  | false =>
    rw [show decide (b2c false = 0) = true from rfl, br_tq]
    exact pp_nr
  | true =>
    rw [show decide (b2c true = 0) = false from rfl, br_fq]
    refine r_opens ?_
    cases d with
    | zero => exact pp_nr
    | succ d =>
    have hi1 := XTR_I (k := 70) (x := w.1 70 + 1) (XTR_rf (lst := lst) (K := K) (Nk := Nk) (fof := fof) (cvr := cvr) hC hR hq) (by decide) (by decide)
    refine pp_rb (pp_mo (IS D d o n lo hi xa xb q r m _ a cm Q sc g lst hE h9 hxb hr4 hcl hC hi1.2.2.1.1 hq htot) (fun m2 z w2 rt hz => ?_))
    refine pk_ltq (pk_some ?_)
    exact XZ_out (XZ_in hi1 hz) (fun Q2 sc2 h => XRS_I h (by decide) (by decide)) rfl (Nat.le_refl _) (fun j a b => by omega)
theorem snd_n {F : MS → Int32 → Option (MS × Int32)} (c : CTZ m0 w0 K T nm Nk) (ht : XTR m0 w0 K T nm Nk fof cvr lst g [] lo hi a b cm cm2 q r Q Q2 sc sc2 m w m2 w2) (hiT : hi ≤ T) (hlh : lo < hi) (htk : tk ≤ 4002) (ha : b < 23990) (hh : ∀ v, XZ m0 w0 K T nm Nk fof cvr lst g lo hi a cm q r Q sc m w (ptc m2 b 17) () v (I (Q2 32 : Nat)) → PP RR A' (F v (I (Q2 32 : Nat)))) : PP RR A' (bnd (fm_M_node N w2 11 (I (tk : Nat))) F) := by
  have hC := ht.2.1
  have hR := ht.2.2.1.1
  have t4 := c.2.1.1.1
  have l1 := ht.1
  obtain ⟨n1, n2⟩ := XRS_q hR
  refine r_nod n1 n2 rfl (nsh htk) (fun h16 => ?_)
  have hN : NOD w2 (nwD w2 (Q2 32) 11 (I (tk : Nat))) (Q2 32) := NOD_0 n1
  obtain ⟨d1, d2, d3, d4, d5, d6, d7, d8⟩ := nwD_at (w := w2) (i := Q2 32) (k := 11) (t := I (tk : Nat))
  have d9 : (nwD w2 (Q2 32) 11 (I (tk : Nat))).1 69 = I (hi : Nat) := by rw [nwD_i (by decide)]; exact hR.1.2.1.1
  generalize nwD w2 (Q2 32) 11 (I (tk : Nat)) = v at hN d1 d2 d3 d4 d5 d6 d7 d8 d9
  have a23 : A v 23 (Q2 32) = 11 := congrArg Int32.toInt d1
  have a28 : A v 28 (Q2 32) = -1 := congrArg Int32.toInt d6
  have h1 := XCS_put (x := 17) hC ha
  have em : ptc m2 b 17 = ptcs m2 b [17] := rfl
  refine hh v (XZ_n (L := []) (c := b + 1) ht (XT_nod hC hR ht.2.2.1.2 ⟨Nat.le_refl _, hiT⟩ (fun j j1 j2 => by omega) (by omega) h1 (by rw [em]; exact XFC_ps XFC_rf (Nat.le_refl _)) (by rw [em]; exact ptcs_r (by decide)) hN rfl h16 d9 (fun n hn => by cases hn) (fun C P R J H fi hx => ⟨fun u u1 u2 => by omega, fun y hy hr => ?_⟩)) (by omega) hlh a28 (Or.inl ⟨rfl, by rw [a23]; decide⟩))
  have gc := fi.1
  rw [em] at gc
  have ro : ∀ k, 23 ≤ k ∧ k ≤ 31 → k ≠ 27 ∧ k ≠ 29 ∧ k ≠ 30 → R k (Q2 32) = A v k (Q2 32) := fun k k1 k2 => FIN_R fi k1 k2 ⟨Nat.le_refl _, by rw [qst_at]; omega⟩
  have R23 := (ro 23 (by decide) (by decide)).trans a23
  have c0 := C_0 gc (show b < b + 1 by omega)
  obtain ⟨b1, b2⟩ := XB c.2.2.1 hC hR hx h16
  obtain ⟨d, hd⟩ := hr
  rw [qst_at] at hd
  exact cr_1 b1 b2 ⟨d, Or.inr (Or.inr (Or.inr (Or.inr (Or.inr (Or.inr (Or.inr (Or.inr (Or.inr (Or.inr (Or.inl ⟨R23, c0, hd⟩))))))))))⟩
theorem x_snd (c : CTZ m0 w0 K T nm Nk) (IW : HXW N m0 w0 K T nm Nk fof cvr f) (IS : HXS N m0 w0 K T nm Nk fof cvr f) (hE : XPcK m0 (f + 1) o 3 n lo hi xa xb q r) (h16 : A m0 16 n = 21) (hxb : xb ≤ 8015) (hr4 : r ≤ 400) (hcl : NEC (K hi) ∧ hi ≤ T) (hC : XCS m0 nm m a cm sc g) (hR : XRS w0 T w lo Q sc) (hq : Q 56 = q) (htot : tot sc + (hi - lo) ≤ 4000 ∧ sc.length ≤ o + 1) : PP (XZ m0 w0 K T nm Nk fof cvr lst g lo hi a cm q r Q sc m w) ((jrc_Cm_fun N D).2.2.2.2.2.2.2.2.2.2.1 m (I (n : Nat)) (lsI lst)) (km_M_simple N (krc_M_behind N d) w) := by
  have t4 := c.2.1.1.1
  have hd := xp_hd hE
  have fr := XCS_fr hC
  have hn : n ≤ 8015 := by omega
  obtain ⟨-, ⟨tk, h17, htk⟩, -, h4⟩ := hE
  rcases h4 with h | h | h | h | h | h | h | h | h | h | h | h | h | h | h | h | h
  · have := h.1.1; have := h.1.2.1; omega
  · have := h.1; omega
  · have := h.1; omega
  · have := h.1; omega
  · have := h.1; omega
  · have := h.1; omega
  · have := h.1; omega
  · have := h.1; omega
  · have := h.1; omega
  · have := h.1; omega
  · have := h.1; omega
  · have := h.1; omega
  · rcases h.1 with z | z <;> omega
  · have := h.1; omega
  · have := h.1; omega
  · obtain ⟨-, -, x, y, mid, c1, c2, s, h18, hx, h19, hy, hc2, k36, k9⟩ := h
    have hdx := xp_hd hx
    have hdy := xp_hd hy
    have km : K mid = 36 := kA c (by omega) k36
    unfold km_M_simple kb_M_simple_0
    refine sv_x hR (fun v hX hQ => ?_)
    cases d with
    | zero => exact pp_nr
    | succ d =>
    cases D with
    | zero => exact pp_nl
    | succ D =>
    show PP _ (jm_Cm_expression N (jrc_Cm_fun N D) m (I (n : Nat)) (lsI lst)) _
    refine exd_21 hn (tre fr (by decide) h16) (l_id ?_)
    cases D with
    | zero => exact pp_nl
    | succ D =>
    show PP _ (jm_Cm_compound N (jrc_Cm_fun N D) m (I (n : Nat)) (lsI lst)) _
    refine cmd_21 hn (tre fr (by decide) h16) hC.2 (tre fr (by decide) h17) (by omega) (fun hg => l_ck (fun _ => ?_))
    rw [tre fr (by decide) h18]
    have q56 : QSV Q 56 = q := by rw [QSV_n (by decide) (by decide)]; exact hq
    refine pp_rb (IW D d o x lo mid xa c1 q s m v a cm (QSV Q) sc g false _ _ hx (by omega) (by omega) ⟨by omega, by omega, by rw [km]; rfl⟩ hC hX q56 (by omega) (fun m2 w2 rt hz => pp_rx ?_))
    obtain ⟨b2, cm2, Q2, sc2, ht⟩ := XZ_tr (lst := lst) hz (XTR_rf hC hX q56)
    have hR2 := ht.2.2.1.1
    unfold kb_M_simple_39
    rw [decide_eq_true hR2.1.2.2.1, br_tq, isS_e (k := 30) (s := 11) (XRS_wp c hR2) (by decide) rfl, if_neg (by omega), bnd_s, show decide ((0 : Int32) = 0) = true from rfl, br_tq, decide_eq_true hR2.1.2.2.1, br_tq, isS_e (k := 36) (s := 21) (XRS_wp c hR2) (by decide) rfl, if_pos km, bnd_s, show decide ((1 : Int32) = 0) = false from rfl, br_fq, hR2.1.2.1.1]
    refine l_ck (fun _ => ?_)
    rw [tre (XCS_fr ht.2.1) (by decide) h19]
    have e74 : ∀ w3, XTR m0 w0 K T nm Nk fof cvr lst g [] lo mid a b2 cm cm2 q s (QSV Q) Q2 sc sc2 m v m2 w3 → PP (XZ m0 w0 K T nm Nk fof cvr lst g lo hi a cm q r Q sc m w) (bnd ((jrc_Cm_fun N D).2.2.2.2.2.2.2.2.2.2.1 m2 (I (y : Nat)) 0) (fun u125 r125 => bnd (jm_Co_put N u125 17) (fun u127 r127 => jb_Cm_compound_455 N (jrc_Cm_fun N D) () u127))) (kb_M_simple_74 N (krc_M_behind N (d + 1)) () w3 (I (mid : Nat))) := fun w3 ht3 => by
      unfold kb_M_simple_74
      have hR3 := ht3.2.2.1.1
      have e69 : w3.1 69 + 1 = I ((mid + 1 : Nat) : Int) := by rw [hR3.1.2.1.1, i_suc]
      rw [lt_e, e69, show upI w3 69 (I ((mid + 1 : Nat) : Int)) = adv w3 mid from rfl]
      have ht4 := XTR_ad ht3 (by omega) (by omega)
      have hl4 := ht4.2.2.2.1
      have ttl := XTR_len ht4
      refine pp_bb (pp_mo (x_bh (o := o + 1) (lst := false) c IS hy k9 (by omega) hr4 hcl ht4.2.1 ht4.2.2.1.1 ht4.2.2.1.2 (by omega)) (fun m5 z w5 rt5 hz5 => ?_))
      obtain ⟨b6, cm6, Q6, sc6, ht6⟩ := XZ_tr (lst := lst) hz5 ht4
      have hC6 := ht6.2.1
      refine l_put hC6.1.2.2.1.1 hC6.1.2.2.1.2.2 (fun ha => ?_)
      refine snd_n c ht6 hcl.2 (by omega) (by omega) ha (fun v7 hz7 => ?_)
      unfold kb_M_simple_97
      exact pp_l (XZ_mk hz7 hQ (fun v => rfl))
    refine r_br (fun _ => e74 w2 ht) (fun _ => r_rul (fun v8 hv => e74 v8 (XTR_mv ht (RUL_x hv hR2) hv.2 (Nat.le_refl _) (fun j a b => by omega))))
  · have := h.1; omega
end
end
section
set_option maxRecDepth 100000
def HXC (N : Nat) (m0 w0 : MS) (K : Nat → Nat) (T : Nat) (nm Nk : Nat → Nat) (fof cvr : Int → Int → Int) (f : Nat) : Prop := ∀ (D d o n lo hi xa xb q r : Nat) (m w : MS) (a cm : Nat) (Q : Nat → Nat) (sc : SCT) (g lst : Bool), XPcK m0 f o 3 n lo hi xa xb q r → A m0 16 n = 19 → xb ≤ 8015 → r ≤ 400 → (NEC (K hi) ∧ hi ≤ T) → XCS m0 nm m a cm sc g → XRS w0 T w lo Q sc → Q 56 = q → (tot sc + (hi - lo) ≤ 4000 ∧ sc.length ≤ o + 1) → PP (XZ m0 w0 K T nm Nk fof cvr lst g lo hi a cm q r Q sc m w) ((jrc_Cm_fun N D).2.2.2.2.2.2.2.2.2.2.1 m (I (n : Nat)) (lsI lst)) (kb_M_expression_60 N (krc_M_behind N d) () w)
section
variable {α β : Type} {m0 w0 m w m2 w2 m3 w3 v u w1 mS wS : MS} {K nm Nk W W2 : Nat → Nat} {N T D d o a a0 b b0 c cm cm0 cm2 cm3 q q0 r s lo lo0 mid hi i j f f2 n k kk p p2 σ tk x xa xb cc M M' m1 lv y t tok : Nat} {Q Q0 Q2 Q3 Q4 Qa : Nat → Nat} {sc sc0 sc2 sc3 : SCT} {g lst l2 : Bool} {L L1 L2 S : List Nat} {idc fof cvr : Int → Int → Int} {z : Unit} {rt v1 v2 v3 v4 v5 r0 : Int32} {fc : MS → Unit → Option (MS × Unit)} {RR : MS → Unit → MS → Int32 → Prop} {A' : Option (MS × Unit)} {B' : Option (MS × Int32)}
theorem xs_step (c : CTZ m0 w0 K T nm Nk) (IM : HXM N m0 w0 K T nm Nk fof cvr (f + 1)) (IW1 : HXW N m0 w0 K T nm Nk fof cvr (f + 1)) (IW : HXW N m0 w0 K T nm Nk fof cvr f) (IS : HXS N m0 w0 K T nm Nk fof cvr f) : HXS N m0 w0 K T nm Nk fof cvr (f + 1) := by
  intro D d o n lo hi xa xb q r m w a cm Q sc g lst hE h9 hxb hr4 hcl hC hR hq htot
  by_cases z20 : A m0 16 n = 20
  · exact IM D d o n lo hi xa xb q r m w a cm Q sc g lst hE z20 hxb hr4 hcl hC hR hq htot
  by_cases z21 : A m0 16 n = 21
  · exact x_snd c IW IS hE z21 hxb hr4 hcl hC hR hq htot
  have n19 : A m0 16 n ≠ 19 := fun z => by
    have h4 := hE.2.2.2
    rcases h4 with h | h | h | h | h | h | h | h | h | h | h | h | h | h | h | h | h
    · have := h.1.1; have := h.1.2.1; omega
    · have := h.1; omega
    · have := h.1; omega
    · have := h.1; omega
    · have := h.1; omega
    · have := h.1; omega
    · have := h.1; omega
    · have := h.1; omega
    · have := h.1; omega
    · have := h.1; omega
    · have := h.1; omega
    · have := h.1; omega
    · rcases h.1 with z | z <;> omega
    · obtain ⟨-, -, x, c1, -, -, -, h⟩ := h
      exact h9 h
    · have := h.1; omega
    · have := h.1; omega
    · have := h.1; omega
  exact x_smp1 c IW1 (xp_2 hE n19 z20 z21) hxb hr4 hcl hC hR hq htot
theorem pa_beg9 {u : MS} {q r hi lo n f : Nat} (h : PAcK u f n lo hi a b q r) : A u 6 lo ≠ 9 := by
  cases f with
  | zero => exact h.elim
  | succ f =>
    obtain ⟨-, -, -, h⟩ := h
    rcases h with ⟨h, -⟩ | ⟨-, x, -, -, -, -, -, h⟩ | ⟨-, x, c1, -, -, -, h, -⟩ | ⟨-, k, m, c1, -, -, ⟨-, h, -⟩, -⟩ | ⟨-, k, m, mid, c1, s, -, -, ⟨-, h, -⟩, -⟩
    · have := h.2.1; omega
    · omega
    · omega
    · omega
    · omega
theorem xp_beg2 : ∀ {f o cl n lo hi a b q r : Nat} {u : MS}, XPcK u f o cl n lo hi a b q r → cl ≤ 2 → A u 6 lo ≠ 9
  | 0, _, _, _, _, _, _, _, _, _, _, h, _ => h.elim
  | f + 1, o, cl, n, lo, hi, a, b, q, r, u, h, hcl => by
    have h4 := h.2.2.2
    rcases h4 with ⟨h4, -⟩ | ⟨h4, m, c, h5, h6, h7, hk, -⟩ | ⟨h4, h5, hk⟩ | ⟨h4, h5, hk⟩ | ⟨h4, k, m, c, h5, h6, h7, hk, -⟩ | ⟨h4, x, mid, c, s, k, m, c2, h5, h6, h7, h8, h9, hk, -⟩ | ⟨h4, k, m, c, h5, h6, h7, hk, -⟩ | ⟨h4, k, m, m1, c1, s1, h5, h6, h7⟩ | ⟨h4, k, m, ph, c, h5, h6, h7, h8, h9, h10, h11, h12, hk, -⟩ | h4 | ⟨h4, h5, k, m, a2, c, h6, h7, h8, h9, h10, h11, hk, -⟩ | ⟨h4, h5, x, mid, c, s, k, m, -, hx, -⟩ | ⟨h4, h5, m, c, h6, h7, h8, hk, hk2⟩ | ⟨h4, h5, -⟩ | ⟨h4, h5, -⟩ | ⟨h4, h5, -⟩ | ⟨h4, h5, j, m, c, h6, hs, h7, h8⟩
    · have := h4.2.1; omega
    · omega
    · obtain ⟨-, -, -, -, -, ⟨-, h, -⟩, -⟩ := h5; omega
    · obtain ⟨-, -, -, -, -, -, -, ⟨-, h, -⟩, -⟩ := h5; omega
    · omega
    · omega
    · omega
    · rcases h7 with ⟨-, -, -, -, -, -, hk, -⟩ | ⟨x, m2, c2, s2, kb, mb, c3, -, -, -, -, -, -, hk, -⟩
      · omega
      · omega
    · omega
    · have := h4.2.1.2.1; omega
    · omega
    · exact (xp_beg0 hx).2.2
    · rcases h4 with z | z
      · have := hk z; omega
      · have := hk2 z; omega
    · omega
    · omega
    · omega
    · cases j with
      | zero => omega
      | succ j =>
        obtain ⟨-, n2, x2, c2, q2, S2, g2, h1, -⟩ := hs
        rcases h1 with ⟨⟨mm, e, -⟩, -⟩ | ⟨-, z, -⟩
        · exact xp_beg2 e (by decide)
        · cases z
theorem xp_cat {u : MS} {q r hi lo n f : Nat} (h : XPcK u (f + 1) o 3 n lo hi a b q r) (h9 : A u 6 lo = 9) : A u 16 n = 19 := by
  by_cases z19 : A u 16 n = 19
  · exact z19
  exfalso
  by_cases z20 : A u 16 n = 20 ∨ A u 16 n = 21
  · have h4 := h.2.2.2
    rcases h4 with h | h | h | h | h | h | h | h | h | h | h | h | h | h | h | h | h
    · have := h.1.1; have := h.1.2.1; omega
    · have := h.1; omega
    · have := h.1; omega
    · have := h.1; omega
    · have := h.1; omega
    · have := h.1; omega
    · have := h.1; omega
    · have := h.1; omega
    · have := h.1; omega
    · have := h.1; omega
    · have := h.1; omega
    · have := h.1; omega
    · rcases h.1 with z | z <;> omega
    · exact z19 h.1
    · obtain ⟨-, -, x, y, mid, c, c2, -, hp, -⟩ := h
      exact pa_beg9 hp h9
    · obtain ⟨-, -, x, y, mid, c, c2, s, -, hx, -⟩ := h
      exact xp_beg2 hx (by decide) h9
    · have := h.1; omega
  · exact xp_beg2 (xp_2 h z19 (fun z => z20 (Or.inl z)) (fun z => z20 (Or.inr z))) (by decide) h9
theorem xe_step (c : CTZ m0 w0 K T nm Nk) (I1 : HXS N m0 w0 K T nm Nk fof cvr (f + 1)) (IC : HXC N m0 w0 K T nm Nk fof cvr (f + 1)) : HXE N m0 w0 K T nm Nk fof cvr (f + 1) := by
  intro D d o n lo hi xa xb q r m w a cm Q sc g lst hE hxb hr4 hcl hC hR hq htot
  have hd := xp_hd hE
  cases d with
  | zero => exact pp_nr
  | succ d =>
  show PP _ _ (km_M_expression N (krc_M_behind N d) w)
  have hi1 := XTR_I (k := 70) (x := w.1 70 + 1) (XTR_rf (lst := lst) (K := K) (Nk := Nk) (fof := fof) (cvr := cvr) hC hR hq) (by decide) (by decide)
  have hR1 := hi1.2.2.1.1
  have e31 : PP (XZ m0 w0 K T nm Nk fof cvr lst g lo hi a cm q r Q sc m w) ((jrc_Cm_fun N D).2.2.2.2.2.2.2.2.2.2.1 m (I (n : Nat)) (lsI lst)) (kb_M_expression_31 N (krc_M_behind N d) () w) := by
    unfold kb_M_expression_31
    refine r_opens ?_
    rw [isV_e (k := 9) (s := 4) (XRS_wp c hR1) (by decide) rfl, bnd_s]
    by_cases z9 : K lo = 9
    · have h6 : A m0 6 lo = 9 := by
        show (m0.2.2.1 6 lo).toInt = 9
        rw [c.1.2 lo (by omega), z9]; rfl
      rw [if_pos z9, show decide ((1 : Int32) = 0) = false from rfl, br_fq]
      have e60 : ∀ w3, XTR m0 w0 K T nm Nk fof cvr lst g [] lo lo a a cm cm q q Q Q sc sc m w m w3 → PP (XZ m0 w0 K T nm Nk fof cvr lst g lo hi a cm q r Q sc m w) ((jrc_Cm_fun N D).2.2.2.2.2.2.2.2.2.2.1 m (I (n : Nat)) (lsI lst)) (kb_M_expression_60 N (krc_M_behind N d) () w3) := fun w3 ht3 => pp_mo (IC D d o n lo hi xa xb q r m w3 a cm Q sc g lst hE (xp_cat hE h6) hxb hr4 hcl hC ht3.2.2.1.1 hq htot) (fun m2 z w2 rt hz => XZ_in ht3 hz)
      exact r_br (fun _ => e60 _ hi1) (fun _ => r_rul (fun v hv => e60 v (XTR_mv hi1 (RUL_x hv hR1) hv.2 (Nat.le_refl _) (fun j a b => by omega))))
    · have h6 : A m0 6 lo ≠ 9 := fun z => z9 (kA c (by omega) z)
      rw [if_neg z9, show decide ((0 : Int32) = 0) = true from rfl, br_tq]
      cases d with
      | zero => exact pp_nr
      | succ d =>
      refine pp_rb (pp_mo (I1 D d o n lo hi xa xb q r m _ a cm Q sc g lst hE h6 hxb hr4 hcl hC hR1 hq htot) (fun m2 z w2 rt hz => ?_))
      unfold kb_M_expression_137
      refine pk_ltq (pk_some ?_)
      exact XZ_out (XZ_in hi1 hz) (fun Q2 sc2 h => XRS_I h (by decide) (by decide)) rfl (Nat.le_refl _) (fun j a b => by omega)
  unfold km_M_expression kb_M_expression_0
  rw [decide_eq_true hR.1.2.2.1, br_tq, bU_m (XRS_wp c hR), bnd_s, isV_e (k := 9) (s := 4) (XRS_wp c hR) (by decide) rfl, bnd_s]
  cases bUK (K lo) with
  | false =>
    rw [show decide (b2c false = 0) = true from rfl, br_tq]
    by_cases z9 : K lo = 9
    · rw [if_pos z9, show decide ((1 : Int32) = 0) = false from rfl, br_fq]
      exact e31
    · rw [if_neg z9, show decide ((0 : Int32) = 0) = true from rfl, br_tq]
      exact pp_nr
  | true =>
    rw [show decide (b2c true = 0) = false from rfl, br_fq]
    exact e31
end
end
section
set_option maxRecDepth 100000
section
variable {α β : Type} {m0 w0 m w m2 w2 m3 w3 v u w1 mS wS : MS} {K nm Nk W W2 : Nat → Nat} {N T D d o a a0 b b0 c cm cm0 cm2 cm3 q q0 r s lo lo0 mid hi i j f f2 n k kk p p2 σ tk x xa xb M m1 lv y : Nat} {Q Q0 Q2 Q3 Q4 : Nat → Nat} {sc sc0 sc2 sc3 t t2 : SCT} {e e2 : List Nat × List Nat × Nat} {g lst l2 : Bool} {L L1 L2 S : List Nat} {idc fof cvr : Int → Int → Int} {z : Unit} {rt v1 v2 v3 v4 v5 : Int32} {fc : MS → Unit → Option (MS × α)} {RR : MS → α → MS → β → Prop} {F : MS → Unit → Option (MS × β)}
theorem fg_op (c : CTZ m0 w0 K T nm Nk) (a2 : XCS m0 nm m2 b cm2 (e2 :: t2) g) (hR : XRS w0 T w2 p Q2 (e2 :: t2)) (n1 : e.1 <+: e2.1) (bt : tot t2 = tot t)
    (hend : ∀ m3 w3 b' Q3 sc3, XCS m0 nm m3 b' cm2 sc3 g → XRS w0 T w3 p Q3 sc3 → QRR Q2 w2 w3 → (∀ k, k < 23 ∨ (31 < k ∧ k ≠ 60) → w3.2.2.1 k = w2.2.2.1 k) → ((m3 = m2 ∧ w3 = w2 ∧ b' = b ∧ Q3 = Q2 ∧ sc3 = e2 :: t2 ∧ e2.1 = e.1) ∨ (e.1.length < e2.1.length ∧ m3 = upI (ptcs m2 b [16, I ((e2.1.length - e.1.length : Nat) : Int)]) 706 (I (tot (e :: t) : Nat)) ∧ b' = b + 2 ∧ Q3 = qst Q2 32 (Q2 32 + 1) ∧ sc3 = (e.1, e2.2) :: t2 ∧ Q2 32 < 16000 ∧ A w3 23 (Q2 32) = 18 ∧ A w3 25 (Q2 32) = ((e.1.length : Nat) : Int) ∧ e2.1.take e.1.length = e.1)) → PP RR (fc m3 ()) (F w3 ())) : PP RR (bnd (jm_Cm_forget N m2 (I (tot (e :: t) : Nat))) fc) (bnd (fm_M_unbind N w2 (I (e.1.length : Nat))) F) := by
  have rn := hR.1.2.2.2.1
  have tl : t2.length + 1 ≤ 27 := rn.2.1.2
  have t4 := c.2.1.1.1
  have le := n1.length_le
  have e706 : m2.1 706 = I (tot (e2 :: t2) : Nat) := a2.1.2.1.2.2.1
  have t4k : tot (e2 :: t2) ≤ 4000 := a2.1.2.1.2.2.2.1
  have et : tot (e2 :: t2) = tot t2 + e2.1.length := rfl
  have et0 : tot (e :: t) = tot t + e.1.length := rfl
  have h60 : w2.2.2.1 60 t2.length = I (e2.1.length : Nat) := rn.2.2.1.1.1
  have h65 : w2.1 65 = I (t2.length : Nat) := rn.1
  have l2 := nd_len 1400 _ rn.2.2.2.1.1 rn.2.2.2.1.2.1
  show PP RR (bnd (jb_Cm_forget_0 N () m2 (I (tot (e :: t) : Nat))) fc) (bnd (fb_M_unbind_0 N () w2 (I (e.1.length : Nat))) F)
  unfold jb_Cm_forget_0 jb_Cm_forget_30 fb_M_unbind_0 fb_M_unbind_41
  rw [e706, h65, i_nt2 (p := t2.length) (by omega), h60, decI (by omega) (by omega) (by omega) (by omega), decI (by omega) (by omega) (by omega) (by omega), bnd_ck]
  refine r_ck (fun _ => ?_)
  by_cases z : e2.1.length ≤ e.1.length
  · 
    have ee : e2.1 = e.1 := (n1.eq_of_length (by omega)).symm
    rw [decide_eq_true (by omega), decide_eq_true (by omega), br_tq, br_tq, lt_e, bnd_s, bnd_s]
    have : upI m2 706 (I (tot (e :: t) : Nat)) = m2 := upI_id (by rw [e706, et, et0, bt, ee])
    rw [this]
    exact hend m2 w2 b Q2 (e2 :: t2) a2 hR QRR_rf (fun _ _ => rfl) (Or.inl ⟨rfl, rfl, rfl, rfl, rfl, ee⟩)
  · rw [decide_eq_false (by omega), decide_eq_false (by omega), br_fq, br_fq]
    have s1 : ∀ x, (ptc m2 b x).1 706 - I (tot (e :: t) : Nat) = I ((e2.1.length - e.1.length : Nat) : Int) := fun x => by
      rw [ptc_i (by decide), e706, I_sub]
      congr 1
      omega
    rw [bnd_as2]
    refine l_put a2.1.2.2.1.1 a2.1.2.2.1.2.2 (fun ha => ?_)
    have c1 := XCS_put (x := 16) a2 ha
    rw [s1, bnd_as2]
    refine l_put c1.1.2.2.1.1 c1.1.2.2.1.2.2 (fun ha1 => ?_)
    have c2 := XCS_put (x := I ((e2.1.length - e.1.length : Nat) : Int)) c1 ha1
    rw [lt_e, bnd_s, bnd_as2]
    have em : ptc (ptc m2 b 16) (b + 1) (I ((e2.1.length - e.1.length : Nat) : Int)) = ptcs m2 b [16, I ((e2.1.length - e.1.length : Nat) : Int)] := rfl
    rw [em] at c2 ⊢
    obtain ⟨q1, q2⟩ := XRS_q hR
    rw [hR.1.2.1.1]
    have pT : p ≤ T := hR.1.2.1.2
    refine r_nod q1 q2 rfl (nsh (by omega)) (fun h16 => ?_)
    have d0 : NOD w2 (nwD w2 (Q2 32) 18 (I (p : Nat))) (Q2 32) := NOD_0 q1
    obtain ⟨d1, d2, d3, d4, d5, d6, d7, d8⟩ := nwD_at (w := w2) (i := Q2 32) (k := 18) (t := I (p : Nat))
    have d9 : (nwD w2 (Q2 32) 18 (I (p : Nat))).1 69 = I (p : Nat) := by rw [nwD_i (by decide)]; exact hR.1.2.1.1
    generalize nwD w2 (Q2 32) 18 (I (p : Nat)) = U at d0 d1 d2 d3 d4 d5 d6 d7 d8 d9
    rw [i_nt2 (p := Q2 32) (by omega), bnd_ck]
    refine r_ck (fun _ => ?_)
    rw [lt_e, bnd_ck]
    refine r_ck (fun _ => ?_)
    have hN : NOD w2 (upA U 25 (upd (U.2.2.1 25) (Q2 32) (I (e.1.length : Nat)))) (Q2 32) := NOD_A d0 (by decide)
    have v23 : A (upA U 25 (upd (U.2.2.1 25) (Q2 32) (I (e.1.length : Nat)))) 23 (Q2 32) = 18 := by
      show ((upA U 25 _).2.2.1 23 (Q2 32)).toInt = 18
      rw [upA_no (by decide), d1]; rfl
    have v25 : A (upA U 25 (upd (U.2.2.1 25) (Q2 32) (I (e.1.length : Nat)))) 25 (Q2 32) = ((e.1.length : Nat) : Int) := by
      show ((upA U 25 _).2.2.1 25 (Q2 32)).toInt = _
      rw [upA_at, upd_at]
      exact I_ti (by omega) (by omega)
    have v69 : (upA U 25 (upd (U.2.2.1 25) (Q2 32) (I (e.1.length : Nat)))).1 69 = I (p : Nat) := d9
    generalize upA U 25 (upd (U.2.2.1 25) (Q2 32) (I (e.1.length : Nat))) = V at hN v23 v25 v69
    have hX := XRS_n hR hN.1 (fun k hk => funext (fun j => hN.2.2.1 k j (by omega))) v69 pT hN.2.1 (by omega)
    have V65 : V.1 65 = I (t2.length : Nat) := hX.1.2.2.2.1.1
    rw [V65, i_nt2 (p := t2.length) (by omega), lt_e, bnd_s]
    have tk : e2.1.take e.1.length = e.1 := by
      obtain ⟨l, hl⟩ := n1
      rw [← hl, List.take_left]
    have ok := rn.2.2.2
    have rnV := hX.1.2.2.2.1
    have okc : SOK ((e.1, e2.2) :: t2) := by
      obtain ⟨⟨o1, o2, o3, o4, o5, o6, o7⟩, o8⟩ := ok
      exact ⟨⟨o1.sublist n1.sublist, fun x hx => o2 x (n1.subset hx), o3, by show e.1.length ≤ e2.2.2; omega, o5, o6, o7⟩, o8⟩
    have rnc : RNs (upA V 60 (upd (V.2.2.1 60) t2.length (I (e.1.length : Nat)))) ((e.1, e2.2) :: t2) := by
      obtain ⟨⟨r1, r2, r3, r4, r5⟩, r6⟩ := rnV.2.2.1
      refine ⟨rnV.1, rnV.2.1, ⟨⟨by rw [upA_at, upd_at], fun k x hk => ?_, by rw [upA_no (by decide)]; exact r3, fun k x hk => by rw [upA_no (by decide)]; exact r4 k x hk, by rw [upA_no (by decide)]; exact r5⟩, ?_⟩, okc⟩
      · rw [upA_no (by decide)]
        exact r2 k x (pre_getd n1 hk)
      · exact RNl_60 r6 (Nat.le_refl _)
    have hfc : HFl (upA V 60 (upd (V.2.2.1 60) t2.length (I (e.1.length : Nat)))) ((e.1, e2.2) :: t2) := by
      have := hX.1.2.2.2.2.1
      exact ⟨fun k x hk => by rw [upA_no (by decide)]; exact this.1 k x hk, HFl_fr ok.2 this.2 (fun j _ => by rw [upA_no (by decide)])⟩
    have hXc : XRS w0 T (upA V 60 (upd (V.2.2.1 60) t2.length (I (e.1.length : Nat)))) p (qst Q2 32 (Q2 32 + 1)) ((e.1, e2.2) :: t2) := by
      obtain ⟨x1, x2, x3, x4, x5, x6⟩ := hX.1
      refine ⟨⟨⟨x1.1, fun k hk => ?_⟩, x2, x3, rnc, hfc, x6⟩, hX.2⟩
      have : k < 23 := by unfold TRW at hk; simp only [List.mem_cons, List.not_mem_nil, or_false] at hk; omega
      rw [upA_no (by omega)]; exact x1.2 k hk
    have hQ : QRR Q2 w2 (upA V 60 (upd (V.2.2.1 60) t2.length (I (e.1.length : Nat)))) := QRR_S (QRR_N hN (Nat.le_refl _)) (by omega)
    have wr : ∀ k, k < 23 ∨ (31 < k ∧ k ≠ 60) → (upA V 60 (upd (V.2.2.1 60) t2.length (I (e.1.length : Nat)))).2.2.1 k = w2.2.2.1 k := fun k hk => by
      rw [upA_no (by omega)]
      exact funext (fun j => hN.2.2.1 k j (by omega))
    have vr : ∀ k i, 23 ≤ k → k ≤ 58 → A (upA V 60 (upd (V.2.2.1 60) t2.length (I (e.1.length : Nat)))) k i = A V k i := fun k i h1 h2 => by
      show ((upA V 60 _).2.2.1 k i).toInt = _
      rw [upA_no (by omega)]; rfl
    generalize upA V 60 (upd (V.2.2.1 60) t2.length (I (e.1.length : Nat))) = X at hXc hQ vr wr
    have cc : XCS m0 nm (upI (ptcs m2 b [16, I ((e2.1.length - e.1.length : Nat) : Int)]) 706 (I (tot (e :: t) : Nat))) (b + 2) cm2 ((e.1, e2.2) :: t2) g := by
      obtain ⟨⟨p1, p2, p3, p4, p5, p6, p7⟩, p8⟩ := c2
      have tc : tot ((e.1, e2.2) :: t2) = tot (e :: t) := by show tot t2 + e.1.length = tot t + e.1.length; rw [bt]
      obtain ⟨q1, q2, q3⟩ := p2.2.2.2.2
      refine ⟨⟨⟨fun k hk => by rw [upI_ne (by omega)]; exact p1.1 k hk, p1.2⟩, ⟨by rw [upI_ne (by decide)]; exact p2.1, p2.2.1, by rw [upI_at, tc], by rw [tc]; omega, ⟨q1, fun k x hk => q2 k x (pre_getd n1 hk), CNl_fr q3 rfl (fun _ _ => rfl)⟩⟩, ⟨by rw [upI_ne (by decide)]; exact p3.1, p3.2⟩, by rw [upI_ne (by decide)]; exact p4, p5, p6, ?_⟩, by rw [upI_ne (by decide)]; exact p8⟩
      have p7 : e2.1.length ≤ cm2 := p7
      show e.1.length ≤ cm2
      omega
    refine hend _ X (b + 2) (qst Q2 32 (Q2 32 + 1)) ((e.1, e2.2) :: t2) cc hXc hQ wr (Or.inr ⟨by omega, rfl, rfl, rfl, rfl, h16, (vr 23 _ (by decide) (by decide)).trans v23, (vr 25 _ (by decide) (by decide)).trans v25, tk⟩)
end
end
section
set_option maxRecDepth 100000
section
variable {α β : Type} {m0 w0 m w m2 w2 m3 w3 v u w1 mS wS : MS} {K nm Nk W W2 : Nat → Nat} {N T D d o a a0 b b0 c cm cm0 cm2 cm3 q q0 r s lo lo0 mid hi i j f f2 n k kk p p2 σ tk x xa xb M m1 lv y : Nat} {Q Q0 Q2 Q3 Q4 : Nat → Nat} {sc sc0 sc2 sc3 t t2 : SCT} {e e2 : List Nat × List Nat × Nat} {g lst l2 : Bool} {L L1 L2 S : List Nat} {idc fof cvr : Int → Int → Int} {z : Unit} {rt v1 v2 v3 v4 v5 : Int32} {fc : MS → Unit → Option (MS × α)} {RR : MS → α → MS → β → Prop} {F : MS → Unit → Option (MS × β)}
theorem x_cat (c : CTZ m0 w0 K T nm Nk) (IE : HXE N m0 w0 K T nm Nk fof cvr f) : HXC N m0 w0 K T nm Nk fof cvr (f + 1) := by
  intro D d o n lo hi xa xb q r m w a cm Q sc g lst hE h16 hxb hr4 hcl hC hR hq htot
  have t4 := c.2.1.1.1
  have hd := xp_hd hE
  have fr := XCS_fr hC
  have hn : n ≤ 8015 := by omega
  obtain ⟨-, ⟨tk, h17, htk⟩, -, h4⟩ := hE
  have hx : ∃ x c1 : Nat, A m0 18 n = ((x : Nat) : Int) ∧ XPcK m0 f (o + 1) 3 x (lo + 1) hi xa c1 q r ∧ (c1 < n ∧ A m0 6 lo = 9) := by
    rcases h4 with h | h | h | h | h | h | h | h | h | h | h | h | h | h | h | h | h
    · have := h.1.1; have := h.1.2.1; omega
    · have := h.1; omega
    · have := h.1; omega
    · have := h.1; omega
    · have := h.1; omega
    · have := h.1; omega
    · have := h.1; omega
    · have := h.1; omega
    · have := h.1; omega
    · have := h.1; omega
    · have := h.1; omega
    · have := h.1; omega
    · rcases h.1 with z | z <;> omega
    · exact h.2.2
    · have := h.1; omega
    · have := h.1; omega
    · have := h.1; omega
  clear h4
  obtain ⟨x, c1, h18, hx, hc1, k9⟩ := hx
  have hdx := xp_hd hx
  have kl : K lo = 9 := kA c (by omega) k9
  obtain ⟨e, t, rfl⟩ := PRS_ne hR.1
  have rn := hR.1.2.2.2.1
  have tl : t.length + 1 ≤ 27 := rn.2.1.2
  have h60 : w.2.2.1 60 t.length = I (e.1.length : Nat) := rn.2.2.1.1.1
  have h65 : w.1 65 = I (t.length : Nat) := rn.1
  have l2 := nd_len 1400 _ rn.2.2.2.1.1 rn.2.2.2.1.2.1
  cases D with
  | zero => exact pp_nl
  | succ D =>
  show PP _ (jm_Cm_expression N (jrc_Cm_fun N D) m (I (n : Nat)) (lsI lst)) _
  refine exd_19 hn (tre fr (by decide) h16) (l_id ?_)
  cases D with
  | zero => exact pp_nl
  | succ D =>
  show PP _ (jm_Cm_compound N (jrc_Cm_fun N D) m (I (n : Nat)) (lsI lst)) _
  refine cmd_19 hn (tre fr (by decide) h16) hC.2 (tre fr (by decide) h17) (by omega) (fun hg => ?_)
  refine l_put hC.1.2.2.1.1 hC.1.2.2.1.2.2 (fun ha => ?_)
  have c1x := XCS_put (x := 29) hC ha
  unfold jm_Co_hook jb_Co_hook_0
  rw [bnd_as2]
  refine l_put c1x.1.2.2.1.1 c1x.1.2.2.1.2.2 (fun ha1 => ?_)
  have c2x := XCS_put (x := 0) c1x ha1
  rw [bnd_s]
  have e441 : (ptc (ptc m a 29) (a + 1) 0).1 441 = I ((a + 2 : Nat) : Int) := c2x.1.2.2.1.1
  rw [e441, show ((a + 2 : Nat) : Int) = ((a + 1 + 1 : Nat) : Int) from rfl, I_sn, hC.1.2.1.2.2.1]
  have em : ptc (ptc m a 29) (a + 1) 0 = ptcs m a [29, 0] := rfl
  rw [em] at c2x ⊢
  refine l_ck (fun _ => ?_)
  rw [tre (XCS_fr c2x) (by decide) h18]
  obtain ⟨q1, q2⟩ := XRS_q hR
  unfold kb_M_expression_60
  rw [hR.1.2.1.1]
  refine r_nod q1 q2 rfl (nsh (by omega)) (fun h16r => ?_)
  have d0 : NOD w (nwD w (Q 32) 19 (I (lo : Nat))) (Q 32) := NOD_0 q1
  obtain ⟨d1, d2, d3, d4, d5, d6, d7, d8⟩ := nwD_at (w := w) (i := Q 32) (k := 19) (t := I (lo : Nat))
  have d9 : (nwD w (Q 32) 19 (I (lo : Nat))).1 69 = I (lo : Nat) := by rw [nwD_i (by decide)]; exact hR.1.2.1.1
  generalize nwD w (Q 32) 19 (I (lo : Nat)) = U at d0 d1 d2 d3 d4 d5 d6 d7 d8 d9
  have e69 : U.1 69 + 1 = I ((lo + 1 : Nat) : Int) := by rw [d9, i_suc]
  rw [lt_e, e69]
  have dI : NOD w (upI U 69 (I ((lo + 1 : Nat) : Int))) (Q 32) := NOD_I d0 (by decide) (by decide)
  have u69 : (upI U 69 (I ((lo + 1 : Nat) : Int))).1 69 = I ((lo + 1 : Nat) : Int) := upI_at
  have u23 : (upI U 69 (I ((lo + 1 : Nat) : Int))).2.2.1 23 (Q 32) = 19 := d1
  have u28 : (upI U 69 (I ((lo + 1 : Nat) : Int))).2.2.1 28 (Q 32) = -1 := d6
  generalize upI U 69 (I ((lo + 1 : Nat) : Int)) = U2 at dI u69 u23 u28
  have f65 : U2.1 65 = I (t.length : Nat) := (dI.1 65 (by decide)).trans h65
  have f60 : U2.2.2.1 60 t.length = I (e.1.length : Nat) := (dI.2.2.1 60 _ (by omega)).trans h60
  rw [f65, i_nt2 (p := t.length) (by omega), f60]
  refine r_ck (fun _ => r_lt (r_ck (fun _ => ?_)))
  rw [lt_e, i_nt2 (p := Q 32) (by omega)]
  have dV : NOD w (upA U2 26 (upd (U2.2.2.1 26) (Q 32) (I (e.1.length : Nat)))) (Q 32) := NOD_A dI (by decide)
  have v69 : (upA U2 26 (upd (U2.2.2.1 26) (Q 32) (I (e.1.length : Nat)))).1 69 = I ((lo + 1 : Nat) : Int) := u69
  have v23 : (upA U2 26 (upd (U2.2.2.1 26) (Q 32) (I (e.1.length : Nat)))).2.2.1 23 (Q 32) = 19 := by rw [upA_no (by decide)]; exact u23
  generalize upA U2 26 (upd (U2.2.2.1 26) (Q 32) (I (e.1.length : Nat))) = V at dV v69 v23
  have hV : XRS w0 T V (lo + 1) (qst Q 32 (Q 32 + 1)) (e :: t) := XRS_n hR dV.1 (fun k hk => funext (fun j => dV.2.2.1 k j (by omega))) v69 (by omega) dV.2.1 (by omega)
  have q56 : qst Q 32 (Q 32 + 1) 56 = q := by rw [qst_no (by decide)]; exact hq
  have q32' : qst Q 32 (Q 32 + 1) 32 = Q 32 + 1 := qst_at
  refine pp_bb (pp_mo (IE D d (o + 1) x (lo + 1) hi xa c1 q r _ V (a + 2) cm (qst Q 32 (Q 32 + 1)) (e :: t) g false hx (by omega) hr4 hcl c2x hV q56 (by omega)) (fun m2 z w2 rt hz => ?_))
  obtain ⟨b, cm2, Q2, sc2, ht⟩ := XZ_tr (lst := lst) hz (XTR_rf c2x hV q56)
  obtain ⟨a1, a2, a3, a4, ⟨W, a5, a6⟩, a7, a8, a9, a10, a11⟩ := ht
  have nx := (a5.2 rfl).2
  cases sc2 with
  | nil => exact nx.elim
  | cons e2 t2 =>
  obtain ⟨n1, n2, n3⟩ := nx
  have bt : tot t2 = tot t := (BDs_len n2).2
  have hR2 := a3.1
  refine l_put a2.1.2.2.1.1 a2.1.2.2.1.2.2 (fun ha3 => ?_)
  have c3 := XCS_put (x := 30) a2 ha3
  refine fg_op c c3 hR2 n1 bt (fun m3 w3 b' Q3 sc3 hC3 hR3 hQ3 wr hcase => ?_)
  have le2 : a + 2 ≤ b := a1.2.1
  have q32b : Q 32 + 1 ≤ Q2 32 := by have := a8.2.1 32 (by decide); rw [q32'] at this; exact this
  have F1 : ∀ j, j < b → m3.2.2.1 23 j = m2.2.2.1 23 j := fun j hj => by
    rcases hcase with ⟨rfl, -⟩ | ⟨-, rfl, -⟩
    · exact ptc_o (by omega)
    · show (ptcs (ptc m2 b 30) (b + 1) _).2.2.1 23 j = _
      rw [ptcs_o (Or.inl (by omega))]; exact ptc_o (by omega)
  have F2 : ∀ k, k ≠ 23 → m3.2.2.1 k = m2.2.2.1 k := fun k hk => by
    rcases hcase with ⟨rfl, -⟩ | ⟨-, rfl, -⟩
    · exact ptc_r hk
    · show (ptcs (ptc m2 b 30) (b + 1) _).2.2.1 k = _
      rw [ptcs_r hk]; exact ptc_r hk
  have F3 : ∀ k, k ≠ 441 → k ≠ 706 → m3.1 k = m2.1 k := fun k h1 h2 => by
    rcases hcase with ⟨rfl, -⟩ | ⟨-, rfl, -⟩
    · exact ptc_i h1
    · rw [upI_ne h2, ptcs_i h1]; exact ptc_i h1
  have F4 : Q2 32 ≤ Q3 32 ∧ Q3 32 ≤ Q2 32 + 1 ∧ ∀ k, k ≠ 32 → Q3 k = Q2 k := by
    rcases hcase with ⟨-, -, -, rfl, -⟩ | ⟨-, -, -, rfl, -⟩
    · exact ⟨Nat.le_refl _, by omega, fun _ _ => rfl⟩
    · rw [qst_at]; exact ⟨by omega, by omega, fun k hk => qst_no hk⟩
  have F5 : tot sc3 ≤ tot (e :: t) + (hi - (lo + 1)) ∧ Onm nm sc3 = e.1.map nm ∧ HDx nm Nk K W (lo + 1) hi (e :: t) sc3 ∧ b + 1 ≤ b' ∧ m3.2.2.1 23 b = 30 := by
    rcases hcase with ⟨rfl, -, rfl, -, rfl, ee⟩ | ⟨-, rfl, rfl, -, rfl, -⟩
    · exact ⟨a4, by show e2.1.map nm = _; rw [ee], a5, Nat.le_refl _, ptcs_at (l := [30]) (k := 0) rfl⟩
    · refine ⟨?_, rfl, ⟨⟨a5.1.1, a5.1.2⟩, fun _ => ⟨(a5.2 rfl).1, List.prefix_rfl, n2, fun x hx => Or.inl hx⟩⟩, by omega, ?_⟩
      · show tot t2 + e.1.length ≤ _
        have : tot (e :: t) = tot t + e.1.length := rfl
        omega
      · show (ptcs (ptc m2 b 30) (b + 1) _).2.2.1 23 b = _
        rw [ptcs_o (Or.inl (by omega))]; exact ptcs_at (l := [30]) (k := 0) rfl
  have p1 : 1 ≤ a := hC.1.2.2.1.2.1
  have m3h : m3.2.2.1 23 (a + 1) = 0 := by
    rw [F1 (a + 1) (by omega), a7.2.2.1 (a + 1) (by omega)]
    exact ptcs_at (l := [29, 0]) (a := a) (k := 1) rfl
  refine arr_1 hC3.1.2.2.1.1 ⟨by omega, by omega⟩ m3h ?_
  obtain ⟨g1, g2⟩ := XRS_q hR3
  rw [hR3.1.2.1.1]
  refine r_nod g1 g2 rfl (nsh (by omega)) (fun h16s => ?_)
  have x0 : NOD w3 (nwD w3 (Q3 32) 20 (I (hi : Nat))) (Q3 32) := NOD_0 g1
  obtain ⟨x1, x2, x3, x4, x5, x6, x7, x8⟩ := nwD_at (w := w3) (i := Q3 32) (k := 20) (t := I (hi : Nat))
  have x9 : (nwD w3 (Q3 32) 20 (I (hi : Nat))).1 69 = I (hi : Nat) := by rw [nwD_i (by decide)]; exact hR3.1.2.1.1
  generalize nwD w3 (Q3 32) 20 (I (hi : Nat)) = X at x0 x1 x2 x3 x4 x5 x6 x7 x8 x9
  have hX : XRS w0 T X hi (qst Q3 32 (Q3 32 + 1)) sc3 := XRS_n hR3 x0.1 (fun k hk => funext (fun j => x0.2.2.1 k j (by omega))) x9 hcl.2 x0.2.1 (by omega)
  rw [x0.2.1]
  refine r_ck (fun _ => r_lt ?_)
  unfold kb_M_expression_137
  refine r_lt ?_
  have y1 : ∀ k i, (k ≠ 25 ∨ i ≠ Q 32) → (upA X 25 (upd (X.2.2.1 25) (Q 32) (I ((Q3 32 + 1 : Nat) : Int)))).2.2.1 k i = X.2.2.1 k i := fun k i hk => by
    by_cases z : k = 25
    · subst z
      rw [upA_at, upd_no (hk.resolve_left (fun z => z rfl))]
    · rw [upA_no z]
  have y2 : A (upA X 25 (upd (X.2.2.1 25) (Q 32) (I ((Q3 32 + 1 : Nat) : Int)))) 25 (Q 32) = ((Q3 32 + 1 : Nat) : Int) := by
    show ((upA X 25 _).2.2.1 25 (Q 32)).toInt = _
    rw [upA_at, upd_at]
    exact I_ti (by omega) (by omega)
  have y3 : (upA X 25 (upd (X.2.2.1 25) (Q 32) (I ((Q3 32 + 1 : Nat) : Int)))).2.2.2 = X.2.2.2 := rfl
  have hQX : QRR Q w X := QRR_tr (Q2 := qst Q 32 (Q 32 + 1)) (QRR_N dV (Nat.le_refl _)) (QRR_tr (Q2 := Q2) a8.1 (QRR_tr (Q2 := Q2) hQ3 (QRR_N x0 F4.1) QLE_rf) a8.2.1) (QLE_st QLE_rf (by omega))
  have hQY : QRR Q w (upA X 25 (upd (X.2.2.1 25) (Q 32) (I ((Q3 32 + 1 : Nat) : Int)))) := QRR_A hQX (by decide) (Nat.le_refl _)
  have hY : XRS w0 T (upA X 25 (upd (X.2.2.1 25) (Q 32) (I ((Q3 32 + 1 : Nat) : Int)))) hi (qst Q3 32 (Q3 32 + 1)) sc3 := ⟨PRS_x hX.1 (fun _ _ => rfl) (fun k hk => by rw [upA_no (by omega)]) hX.1.2.1.1, hX.2⟩
  generalize upA X 25 (upd (X.2.2.1 25) (Q 32) (I ((Q3 32 + 1 : Nat) : Int))) = Y at y1 y2 y3 hQY hY
  have hY2 := XRS_I (k := 70) (x := Y.1 70 - 1) hY (by decide) (by decide)
  have hQY2 : QRR Q w (upI Y 70 (Y.1 70 - 1)) := hQY
  have y1' : ∀ k i, (k ≠ 25 ∨ i ≠ Q 32) → (upI Y 70 (Y.1 70 - 1)).2.2.1 k i = X.2.2.1 k i := y1
  have y2' : A (upI Y 70 (Y.1 70 - 1)) 25 (Q 32) = ((Q3 32 + 1 : Nat) : Int) := y2
  have y3' : (upI Y 70 (Y.1 70 - 1)).2.2.2 = X.2.2.2 := y3
  generalize upI Y 70 (Y.1 70 - 1) = Y2 at y1' y2' y3' hQY2 hY2
  have hC4 : XCS m0 nm (upA m3 23 (upd (m3.2.2.1 23) (a + 1) (I (b' : Nat)))) b' cm2 sc3 g := Kco_23 hC3
  have mo : ∀ j, j ≠ a + 1 → (upA m3 23 (upd (m3.2.2.1 23) (a + 1) (I (b' : Nat)))).2.2.1 23 j = m3.2.2.1 23 j := fun j hj => by rw [upA_at, upd_no hj]
  have mo2 : ∀ k, k ≠ 23 → (upA m3 23 (upd (m3.2.2.1 23) (a + 1) (I (b' : Nat)))).2.2.1 k = m3.2.2.1 k := fun k hk => upA_no hk
  have m4x : (upA m3 23 (upd (m3.2.2.1 23) (a + 1) (I (b' : Nat)))).2.2.1 23 (a + 1) = I (b' : Nat) := by rw [upA_at, upd_at]
  have m4i : (upA m3 23 (upd (m3.2.2.1 23) (a + 1) (I (b' : Nat)))).1 = m3.1 := rfl
  generalize upA m3 23 (upd (m3.2.2.1 23) (a + 1) (I (b' : Nat))) = Z at hC4 mo mo2 m4x m4i
  obtain ⟨F51, F52, F53, F54, F55⟩ := F5
  have gap : ∀ j, lo ≤ j → j < lo + 1 → K j ≠ 3 := fun j j1 j2 => by rw [show j = lo by omega]; omega
  have y28 : A Y2 28 (Q3 32) = -1 := by
    show (Y2.2.2.1 28 (Q3 32)).toInt = _
    rw [y1' 28 _ (Or.inl (by decide)), x6]; rfl
  have y23 : A Y2 23 (Q3 32) = 20 := by
    show (Y2.2.2.1 23 (Q3 32)).toInt = _
    rw [y1' 23 _ (Or.inl (by decide)), x1]; rfl
  have back : ∀ k n, grp k ≠ 0 → (k ≠ 25 ∨ n ≠ Q 32) → n < Q2 (grp k) → Y2.2.2.1 k n = w2.2.2.1 k n := fun k n z1 z2 z3 => by
    rw [y1' k n z2, x0.2.2.1 k n ?_, hQ3.2.1 k n z1 z3]
    by_cases z : grp k = 32
    · rw [z] at z3; exact Or.inr (Or.inr (by omega))
    · by_cases zk : k < 23
      · exact Or.inl zk
      · by_cases z31 : 31 < k
        · exact Or.inr (Or.inl z31)
        · exact absurd (by unfold grp; rw [if_pos (by omega)]) z
  have y19 : A Y2 23 (Q 32) = 19 := by
    show (Y2.2.2.1 23 (Q 32)).toInt = _
    rw [back 23 (Q 32) (by decide) (Or.inl (by decide)) (by show Q 32 < Q2 32; omega), a8.1.2.1 23 (Q 32) (by decide) (by show Q 32 < qst Q 32 (Q 32 + 1) 32; omega), v23]; rfl
  refine pp_end ⟨b', cm2, qst Q3 32 (Q3 32 + 1), sc3, Q3 32, 2, [], rfl, ⟨by omega, by rw [qst_at]; omega⟩, ⟨⟨by omega, by omega, a1.2.2.1, a1.2.2.2⟩, hC4, ⟨hY2, ?_⟩, by omega, ⟨W, HDx_tr (by omega) a1.1 (HDx_gap gap) F53, ?_⟩, ⟨fun k k1 k2 => ?_, fun k k1 k2 k3 => ?_, fun j hj => ?_, fun k j k1 k2 k3 => ?_, fun j hj => ?_, fun j hj => ?_⟩, ⟨hQY2, fun k hk => ?_, ?_⟩, fun z => (by rw [hg] at z; cases z), fun n hn => (by cases hn), fun C P R J H fi hx => ?_⟩, ⟨by omega, by omega⟩, RTd_1 y28 ⟨by rw [y23]; decide, by rw [y23]; decide⟩ rfl ⟨by omega, by rw [qst_at]; omega⟩, fun n hn => by cases hn⟩
  · rw [qst_no (by decide), F4.2.2 56 (by decide)]; exact a3.2
  · rw [mo2 42 (by decide), F2 42 (by decide), a6, ptcs_r (by decide), ← wup_tr (p := lo) (q := lo + 1) (p2 := hi) (by omega) a1.1, wup_0 (p := lo) gap]
  · rw [m4i, F3 k k1 k2, a7.1 k k1 k2]; exact ptcs_i k1
  · rw [mo2 k k1, F2 k k1, a7.2.1 k k1 k2 k3]; exact ptcs_r k1
  · rw [mo j (by omega), F1 j (by omega), a7.2.2.1 j (by omega)]; exact ptcs_o (Or.inl hj)
  · rw [mo2 k (by omega), F2 k (by omega), a7.2.2.2.1 k j k1 k2 k3, ptcs_r (by omega)]
  · rw [mo2 40 (by decide), F2 40 (by decide), a7.2.2.2.2.1 j hj, ptcs_r (by decide)]
  · rw [mo2 41 (by decide), F2 41 (by decide), a7.2.2.2.2.2 j hj, ptcs_r (by decide)]
  · have := a8.2.1 k hk
    by_cases z : k = 32
    · rw [z, qst_at]; omega
    · rw [qst_no z] at this
      rw [qst_no z, F4.2.2 k z]; exact this
  · have := a8.2.2
    rw [qst_no (by decide), qst_no (by decide), qst_no (by decide)] at this
    rw [qst_no (by decide), qst_no (by decide), qst_no (by decide), F4.2.2 75 (by decide), F4.2.2 77 (by decide), F4.2.2 83 (by decide)]
    exact this
  · have hx2 : HNX nm (e2 :: t2) cm2 H := by
      rcases hcase with ⟨-, -, -, -, rfl, -⟩ | ⟨-, -, -, -, rfl, -⟩
      · exact hx
      · exact hx
    have hx0 : HNX nm (e :: t) cm H := HNX_mo a5.1 a1.2.2.1 hx2
    have fi2 : FNd w0 fof cvr C P R J m2 w2 (a + 2) b q r (qst Q 32 (Q 32 + 1)) Q2 lst [] := by
      refine FIN_sub fi ⟨by omega, by omega⟩ ⟨Nat.le_refl _, Nat.le_refl _⟩ (QLE_st QLE_rf (by omega)) (fun k hk => ?_) (fun j z1 z2 => ?_) (fun k u z1 z2 _ _ => ?_) ⟨fun k n z1 z2 z3 z4 z5 => ?_, fun n _ z => ?_⟩ (fun n z1 z2 => ?_)
      · by_cases z : k = 32
        · rw [z, qst_at]; omega
        · rw [qst_no z, F4.2.2 k z]; exact Nat.le_refl _
      · rw [mo j (by omega), F1 j z2]
      · rw [mo2 k (by omega), F2 k (by omega)]
      · refine back k n z1 ?_ z5
        by_cases z : n = Q 32
        · subst z
          by_cases zk : grp k = 32
          · rw [zk, qst_at] at z4; omega
          · exact Or.inl (fun zz => zk (by rw [zz]; rfl))
        · exact Or.inr z
      · rw [y3', x0.2.2.2]; exact hQ3.2.2 34 n (Or.inr z)
      · have e30 : A Y2 30 n = A w2 30 n := congrArg Int32.toInt (back 30 n (by decide) (Or.inl (by decide)) z2)
        rw [e30]
    obtain ⟨f1, f2'⟩ := a11 C P R J H fi2 hx2
    refine ⟨f1, fun y hy hr => ?_⟩
    have yn : y = none := hy.mpr hg
    have gc := fi.1
    have ro : ∀ k i, 23 ≤ k ∧ k ≤ 31 → k ≠ 27 ∧ k ≠ 29 ∧ k ≠ 30 → Q 32 ≤ i → i ≤ Q3 32 → R k i = A Y2 k i := fun k i k1 k2 i1 i2 => FIN_R fi k1 k2 ⟨i1, by rw [qst_at]; omega⟩
    obtain ⟨dE, hE⟩ := hr
    rw [qst_at, F52] at hE
    have gcZ : ∀ j, a ≤ j → j < b' → j ≠ a + 1 → C j = (m3.2.2.1 23 j).toInt := fun j j1 j2 j3 => by
      rw [gc j j1 j2]
      show (Z.2.2.1 23 j).toInt = _
      rw [mo j j3]
    have c0 : C a = 29 := by
      rw [gcZ a (Nat.le_refl _) (by omega) (by omega), F1 a (by omega), a7.2.2.1 a (by omega)]
      have := ptcs_at (l := [29, 0]) (m := m) (a := a) (k := 0) rfl
      rw [Nat.add_zero] at this
      rw [this]; rfl
    have c1v : C (a + 1) = ((b' : Nat) : Int) := by
      rw [gc (a + 1) (by omega) (by omega)]
      show (Z.2.2.1 23 (a + 1)).toInt = _
      rw [m4x]
      have := hC4.1.2.2.1.2.2
      exact I_ti (by omega) (by omega)
    have cb : C b = 30 := by rw [gcZ b (by omega) (by omega) (by omega), F55]; rfl
    have hI : CRe C R J y b (Q2 32) H (Onm nm (e2 :: t2)) := by
      obtain ⟨b1, b2⟩ := XB c.2.2.1 a2 hR2 hx2 (show Q2 32 < 16000 by omega)
      have oN2 : Onm nm (e2 :: t2) = e2.1.map nm := rfl
      rw [oN2] at b1 b2 ⊢
      rcases hcase with ⟨rfl, -, rfl, rfl, -, ee⟩ | ⟨hlt, rfl, rfl, rfl, -, -, v18, v25, tk2⟩
      · rw [ee]
        rw [ee] at b1 b2
        exact cr_1 b1 b2 ⟨dE, Or.inr (Or.inr (Or.inr (Or.inr (Or.inr (Or.inr (Or.inr (Or.inr (Or.inr (Or.inr (Or.inr (Or.inr (Or.inr (Or.inr (Or.inr (Or.inr (Or.inr (Or.inr (Or.inr (Or.inr (Or.inr (Or.inl ⟨(ro 23 _ (by decide) (by decide) (by omega) (Nat.le_refl _)).trans y23, cb, hE⟩)))))))))))))))))))))⟩
      · rw [qst_at] at hE y23 ro
        have cw : ∀ k z, [16, I ((e2.1.length - e.1.length : Nat) : Int)][k]? = some z → k < 2 → C (b + 1 + k) = z.toInt := fun k z hz hk => by
          rw [gcZ (b + 1 + k) (by omega) (by omega) (by omega)]
          show ((ptcs (ptc m2 b 30) (b + 1) _).2.2.1 23 (b + 1 + k)).toInt = _
          rw [ptcs_at hz]
        have cb1 : C (b + 1) = 16 := cw 0 16 rfl (by decide)
        have cb2 : C (b + 2) = ((e2.1.length - e.1.length : Nat) : Int) := (cw 1 _ rfl (by decide)).trans (I_ti (by have := nd_len 1400 _ hR2.1.2.2.2.1.2.2.2.1.1 hR2.1.2.2.2.1.2.2.2.1.2.1; omega) (by have := nd_len 1400 _ hR2.1.2.2.2.1.2.2.2.1.1 hR2.1.2.2.2.1.2.2.2.1.2.1; omega))
        have yw : ∀ k, 23 ≤ k ∧ k ≤ 31 → A Y2 k (Q2 32) = A w3 k (Q2 32) := fun k hk => by
          show (Y2.2.2.1 k (Q2 32)).toInt = _
          rw [y1' k _ (Or.inr (by omega)), x0.2.2.1 k _ (Or.inr (Or.inr (by rw [qst_at]; omega)))]; rfl
        refine cr_1 b1 b2 ⟨dE, Or.inr (Or.inr (Or.inr (Or.inr (Or.inr (Or.inr (Or.inr (Or.inr (Or.inr (Or.inr (Or.inr (Or.inr (Or.inr (Or.inr (Or.inr (Or.inr (Or.inr (Or.inr (Or.inr (Or.inl ⟨(ro 23 _ (by decide) (by decide) (by omega) (by omega)).trans ((yw 23 (by decide)).trans v18), (ro 23 _ (by decide) (by decide) (by omega) (by omega)).trans y23, cb, cb1, e.1.length, (ro 25 _ (by decide) (by decide) (by omega) (by omega)).trans ((yw 25 (by decide)).trans v25), ?_, ?_, ?_⟩)))))))))))))))))))⟩
        · rw [List.length_map]; omega
        · rw [cb2, List.length_map]
        · rw [← List.map_take, tk2]; exact hE
    obtain ⟨dI, hI⟩ := f2' y hy hI
    rw [qst_at] at hI
    obtain ⟨b1, b2⟩ := XB c.2.2.1 hC hR hx0 h16r
    have oN : Onm nm (e :: t) = e.1.map nm := rfl
    rw [oN] at hI b1 b2 ⊢
    exact cr_1 b1 b2 ⟨max dI dE, Or.inr (Or.inr (Or.inr (Or.inr (Or.inr (Or.inr (Or.inr (Or.inr (Or.inr (Or.inr (Or.inr (Or.inr (Or.inr (Or.inr (Or.inr (Or.inr (Or.inr (Or.inr (Or.inr (Or.inr (Or.inl ⟨(ro 23 _ (by decide) (by decide) (Nat.le_refl _) (by omega)).trans y19, yn, c0, ⟨b', Q3 32 + 1, c1v, (ro 25 _ (by decide) (by decide) (Nat.le_refl _) (by omega)).trans y2', CR_mo (Nat.le_max_right _ _) hE⟩, CR_mo (Nat.le_max_left dI dE) hI⟩))))))))))))))))))))⟩
end
end
section
set_option maxRecDepth 100000
section
variable {α β : Type} {m0 w0 m w m2 w2 m3 w3 v u w1 mS wS : MS} {K nm Nk W W2 : Nat → Nat} {N T D d o a a0 b b0 c cm cm0 cm2 cm3 q q0 r s lo lo0 mid hi i j f f2 n k kk p p2 σ tk x xa xb M m1 lv y : Nat} {Q Q0 Q2 Q3 Q4 : Nat → Nat} {sc sc0 sc2 sc3 t t2 : SCT} {e e2 : List Nat × List Nat × Nat} {g lst l2 : Bool} {L L1 L2 S : List Nat} {idc fof cvr : Int → Int → Int} {z : Unit} {rt v1 v2 v3 v4 v5 : Int32} {fc : MS → Unit → Option (MS × α)} {RR : MS → α → MS → β → Prop} {F : MS → Unit → Option (MS × β)}
theorem XZ_bh (h : XTR m0 w0 K T nm Nk fof cvr lst g [] lo mid a b cm cm2 q r Q Q2 sc sc2 m w m2 w2) (hz : XZ m0 w0 K T nm Nk fof cvr lst g mid hi b cm2 r s Q2 sc2 m2 w2 m3 z w3 rt) : XZ m0 w0 K T nm Nk fof cvr lst g lo hi a cm q s Q sc m w m3 z w3 rt := by
  obtain ⟨c, cm3, Q3, sc3, rn, f, L, z1, z2, z3, z4, z5, z6⟩ := hz
  have := h.1
  have q32 : Q 32 ≤ Q2 32 := h.2.2.2.2.2.2.1.2.1 32 (by decide)
  exact ⟨c, cm3, Q3, sc3, rn, f, L, z1, ⟨by omega, z2.2⟩, XTR_tr h z3, ⟨by omega, by omega⟩, RT_w q32 f false _ _ _ _ (Nat.le_refl _) z5, z6⟩
theorem com_x {G : MS → Option (MS × Int32)} {F : MS → Unit → Option (MS × Unit)} {RR : MS → Unit → MS → Int32 → Prop} (c : CTZ m0 w0 K T nm Nk) (ht : XTR m0 w0 K T nm Nk fof cvr lst g [] lo mid a b cm cm2 q r Q Q2 sc sc2 m w m2 w2) (km : K mid = 26) (hh : ∀ m3 v, XTR m0 w0 K T nm Nk fof cvr lst g [] lo (mid + 1) a (b + 1) cm cm2 q r Q (qst Q2 32 (Q2 32 + 1)) sc sc2 m w m3 v → FRC m0 m3 → PP RR (F m3 ()) (G v)) : PP RR (bnd (jm_Co_put N m2 15) F) (bnd (fm_M_node N (adv w2 mid) 17 (I ((mid + 1 : Nat) : Int))) (fun u3 _ => G u3)) := by
  have hC := ht.2.1
  have hR := ht.2.2.1.1
  have t4 := c.2.1.1.1
  have hl : mid < T := c.2.1.1.lt hR.1.2.1.2 (by omega) (by omega)
  refine l_put hC.1.2.2.1.1 hC.1.2.2.1.2.2 (fun ha => ?_)
  have h1 := XCS_put (x := 15) hC ha
  have hA := XRS_ad hR hl
  obtain ⟨n1, n2⟩ := XRS_q hA
  refine r_nod n1 n2 rfl (nsh (by omega)) (fun h16 => ?_)
  have hN : NOD (adv w2 mid) (nwD (adv w2 mid) (Q2 32) 17 (I ((mid + 1 : Nat) : Int))) (Q2 32) := NOD_0 n1
  obtain ⟨d1, -⟩ := nwD_at (w := adv w2 mid) (i := Q2 32) (k := 17) (t := I ((mid + 1 : Nat) : Int))
  have d9 : (nwD (adv w2 mid) (Q2 32) 17 (I ((mid + 1 : Nat) : Int))).1 69 = I ((mid + 1 : Nat) : Int) := by rw [nwD_i (by decide)]; exact upI_at
  generalize nwD (adv w2 mid) (Q2 32) 17 (I ((mid + 1 : Nat) : Int)) = v at hN d1 d9
  have a23 : A v 23 (Q2 32) = 17 := congrArg Int32.toInt d1
  have em : ptc m2 b 15 = ptcs m2 b [15] := rfl
  refine hh _ v (XTR_tr ht (XT_nod (L := []) (b := b + 1) hC hR ht.2.2.1.2 ⟨Nat.le_succ _, hl⟩ (fun j j1 j2 => by rw [show j = mid by omega]; omega) (by omega) h1 (by rw [em]; exact XFC_ps XFC_rf (Nat.le_refl _)) (by rw [em]; exact ptcs_r (by decide)) (adv_n hN) rfl h16 d9 (fun n hn => by cases hn) (fun C P R J H fi hx => ⟨fun u u1 u2 => by omega, fun y hy hr => ?_⟩))) (XCS_fr h1)
  have gc := fi.1
  rw [em] at gc
  have ro : ∀ k, 23 ≤ k ∧ k ≤ 31 → k ≠ 27 ∧ k ≠ 29 ∧ k ≠ 30 → R k (Q2 32) = A v k (Q2 32) := fun k k1 k2 => FIN_R fi k1 k2 ⟨Nat.le_refl _, by rw [qst_at]; omega⟩
  have R23 := (ro 23 (by decide) (by decide)).trans a23
  have c0 := C_0 gc (show b < b + 1 by omega)
  obtain ⟨b1, b2⟩ := XB c.2.2.1 hC hR hx h16
  obtain ⟨d, hd⟩ := hr
  rw [qst_at] at hd
  exact cr_1 b1 b2 ⟨d, Or.inr (Or.inr (Or.inr (Or.inr (Or.inr (Or.inr (Or.inr (Or.inr (Or.inr (Or.inr (Or.inr (Or.inr (Or.inr (Or.inr (Or.inr (Or.inr (Or.inr (Or.inl ⟨R23, c0, hd⟩)))))))))))))))))⟩
theorem bd_lp (c : CTZ m0 w0 K T nm Nk) (IE : HXE N m0 w0 K T nm Nk fof cvr f) (hxb : xb ≤ 8015) (hr4 : r ≤ 400) (hcl : NEC (K hi) ∧ K hi ≠ 26 ∧ hi ≤ T) (htot : tot sc0 + (hi - lo0) ≤ 4000 ∧ sc0.length ≤ o + 1) : ∀ (k n lo xa q M kf : Nat) (m w : MS) (a cm : Nat) (Q : Nat → Nat) (sc : SCT), RWcK m0 1 26 (XPcK m0 f o 3) k n lo hi xa xb q r → XTR m0 w0 K T nm Nk fof cvr lst g [] lo0 lo a0 a cm0 cm q0 q Q0 Q sc0 sc mS wS m w → PP (XZ m0 w0 K T nm Nk fof cvr lst g lo0 hi a0 cm0 q0 r Q0 sc0 mS wS) (jg_Cm_body N (jrc_Cm_fun N D) kf m (lsI lst) (I (n : Nat))) (bnd ((krc_M_behind N d).2.2.2.2.2.2.2.2.2.2.2.2.2.1 w) (fun u4 r4 => kg_M_body N (krc_M_behind N d) M u4 r4))
  | 0, n, lo, xa, q, M, kf, m, w, a, cm, Q, sc, h, ht => h.elim
  | k + 1, n, lo, xa, q, M, kf, m, w, a, cm, Q, sc, h, ht => by
    have t4 := c.2.1.1.1
    obtain ⟨mid, c1, s, e, h⟩ := h
    have hd := xp_hd e
    have hb : BdE (XPcK m0 f o 3) := XP_bdK f o 3
    have hC := ht.2.1
    have hR := ht.2.2.1.1
    have l1 := ht.1
    have tt := ht.2.2.2.1
    have ttl := XTR_len ht
    cases kf with
    | zero => exact pp_nl
    | succ kf =>
    show PP _ (jb_Cm_body_2 N (jrc_Cm_fun N D) (jg_Cm_body N (jrc_Cm_fun N D) kf) m (lsI lst) (I (n : Nat))) _
    unfold jb_Cm_body_2
    have hms : mid ≤ hi ∧ c1 ≤ xb ∧ s ≤ r ∧ n ≤ 8015 := by
      rcases h with ⟨-, -, rfl, rfl, rfl⟩ | ⟨-, n2, -, hw⟩
      · exact ⟨Nat.le_refl _, Nat.le_refl _, Nat.le_refl _, by omega⟩
      · have := (RW_hdK hb hw).1
        unfold HDc at this
        exact ⟨by omega, by omega, by omega, by omega⟩
    rw [decide_eq_false (fun z => by
      have := (I_eq (x := ((n : Nat) : Int)) (y := 0) (by omega) (by omega) (by decide) (by decide)).mp z
      omega), br_fq, i_nt2 (show n ≤ 100000 by omega)]
    refine l_ck (fun _ => ?_)
    rcases h with ⟨rfl, h21, rfl, rfl, rfl⟩ | ⟨⟨hk1, hk26⟩, n2, h21, hw⟩
    · 
      rw [tre (XCS_fr hC) (by decide) h21, show decide (I 0 = (0 : Int32)) = true from rfl, br_tq]
      have go : PP (XZ m0 w0 K T nm Nk fof cvr lst g lo0 mid a0 cm0 q0 s Q0 sc0 mS wS) (bnd ((jrc_Cm_fun N D).2.2.2.2.2.2.2.2.2.2.1 m (I (n : Nat)) (lsI lst)) (fun u6 _ => jb_Cm_body_58 N (jrc_Cm_fun N D) (jg_Cm_body N (jrc_Cm_fun N D) kf) u6 (lsI lst) (I (n : Nat)))) (bnd ((krc_M_behind N d).2.2.2.2.2.2.2.2.2.2.2.2.2.1 w) (fun u4 r4 => kg_M_body N (krc_M_behind N d) M u4 r4)) := by
        refine pp_bb (pp_mo (IE D d o n lo mid xa c1 q s m w a cm Q sc g lst e hxb hr4 ⟨hcl.1, hcl.2.2⟩ hC hR ht.2.2.1.2 (by omega)) (fun m2 z w2 rt hz => ?_))
        have hz2 := XZ_bh ht hz
        obtain ⟨Q2, sc2, hX2⟩ := XZ_pr hz
        have fr2 : FRC m0 m2 := by obtain ⟨_, _, _, _, _, _, _, -, -, z3, -⟩ := hz; exact XCS_fr z3.2.1
        unfold jb_Cm_body_58
        rw [i_nt2 (show n ≤ 100000 by omega), tre fr2 (by decide) h21]
        refine l_ck (fun _ => ?_)
        cases kf with
        | zero => exact pp_nl
        | succ kf =>
        show PP _ (jb_Cm_body_2 N (jrc_Cm_fun N D) (jg_Cm_body N (jrc_Cm_fun N D) kf) m2 (lsI lst) (I 0)) _
        unfold jb_Cm_body_2
        rw [show decide (I 0 = (0 : Int32)) = true from rfl, br_tq]
        cases M with
        | zero => exact pp_nr
        | succ M =>
        show PP _ _ (kb_M_body_40 N (krc_M_behind N d) (kg_M_body N (krc_M_behind N d) M) w2 rt)
        unfold kb_M_body_40
        rw [tkS_e (k := 26) (s := 6) (XRS_wp c hX2) hX2.1.2.2.1 (by decide) rfl, if_neg hcl.2.1, bnd_s, show decide ((0 : Int32) = 0) = true from rfl, br_tq]
        refine r_lt (pp_end ?_)
        exact XZ_out hz2 (fun Q2 sc2 h => XRS_I h (by decide) (by decide)) rfl (Nat.le_refl _) (fun j a b => by omega)
      unfold jb_Cm_body_23 jb_Cm_body_40 jb_Cm_body_41
      rw [show decide ((0 : Int32) = 0) = true from rfl, br_tq]
      cases lst with
      | false => rw [show decide (lsI false = 0) = true from rfl, br_tq]; exact go
      | true => rw [show decide (lsI true = 0) = false from rfl, br_fq]; exact go
    · 
      have hw1 := (RW_hdK hb hw).1
      unfold HDc at hw1
      have km : K mid = 26 := kA c (by omega) (hk26 rfl)
      rw [tre (XCS_fr hC) (by decide) h21, decide_eq_false (fun z => by
        have := (I_eq (x := ((n2 : Nat) : Int)) (y := 0) (by omega) (by omega) (by decide) (by decide)).mp z
        omega), br_fq]
      have go : PP (XZ m0 w0 K T nm Nk fof cvr lst g lo0 hi a0 cm0 q0 r Q0 sc0 mS wS) (bnd ((jrc_Cm_fun N D).2.2.2.2.2.2.2.2.2.2.1 m (I (n : Nat)) (lsI false)) (fun u6 _ => bnd (jm_Co_put N u6 15) (fun u8 _ => jb_Cm_body_58 N (jrc_Cm_fun N D) (jg_Cm_body N (jrc_Cm_fun N D) kf) u8 (lsI lst) (I (n : Nat))))) (bnd ((krc_M_behind N d).2.2.2.2.2.2.2.2.2.2.2.2.2.1 w) (fun u4 r4 => kg_M_body N (krc_M_behind N d) M u4 r4)) := by
        refine pp_bb (pp_mo (IE D d o n lo mid xa c1 q s m w a cm Q sc g false e (by omega) (by omega) ⟨by rw [km]; exact ⟨rfl, by decide, by decide, by decide⟩, by omega⟩ hC hR ht.2.2.1.2 (by omega)) (fun m2 z w2 rt hz => ?_))
        obtain ⟨b2, cm2, Q2, sc2, ht2⟩ := XZ_tr hz ht
        have hX2 := ht2.2.2.1.1
        cases M with
        | zero => exact pp_nr
        | succ M =>
        show PP _ _ (kb_M_body_40 N (krc_M_behind N d) (kg_M_body N (krc_M_behind N d) M) w2 rt)
        unfold kb_M_body_40
        have e69 : (adv w2 mid).1 69 = I ((mid + 1 : Nat) : Int) := upI_at
        rw [tkS_e (k := 26) (s := 6) (XRS_wp c hX2) hX2.1.2.2.1 (by decide) rfl, if_pos km, bnd_s, show decide ((1 : Int32) = 0) = false from rfl, br_fq, e69]
        refine com_x (G := fun u3 => bnd ((krc_M_behind N d).2.2.2.2.2.2.2.2.2.2.2.2.2.1 u3) (fun u4 r4 => kg_M_body N (krc_M_behind N d) M u4 r4)) c ht2 km (fun m3 v ht3 fr3 => ?_)
        unfold jb_Cm_body_58
        rw [i_nt2 (show n ≤ 100000 by omega), tre fr3 (by decide) h21]
        refine l_ck (fun _ => ?_)
        exact bd_lp c IE hxb hr4 hcl htot k n2 (mid + 1) c1 s M kf m3 v _ cm2 _ sc2 hw ht3
      unfold jb_Cm_body_23 jb_Cm_body_40 jb_Cm_body_41
      rw [show decide ((1 : Int32) = 0) = false from rfl, br_fq]
      cases lst with
      | false => rw [show decide (lsI false = 0) = true from rfl, br_tq]; exact go
      | true => rw [show decide (lsI true = 0) = false from rfl, br_fq]; exact go
theorem x_body (c : CTZ m0 w0 K T nm Nk) (IE : HXE N m0 w0 K T nm Nk fof cvr f) (hE : RWcK m0 1 26 (XPcK m0 f o 3) k n lo hi xa xb q r) (hxb : xb ≤ 8015) (hr4 : r ≤ 400) (hcl : NEC (K hi) ∧ K hi ≠ 26 ∧ hi ≤ T) (hC : XCS m0 nm m a cm sc g) (hR : XRS w0 T w lo Q sc) (hq : Q 56 = q) (htot : tot sc + (hi - lo) ≤ 4000 ∧ sc.length ≤ o + 1) : PP (XZ m0 w0 K T nm Nk fof cvr lst g lo hi a cm q r Q sc m w) ((jrc_Cm_fun N D).2.2.2.1 m (I (n : Nat)) (lsI lst)) ((krc_M_behind N d).2.2.2.2.1 w) := by
  cases D with
  | zero => exact pp_nl
  | succ D =>
  cases d with
  | zero => exact pp_nr
  | succ d =>
  show PP _ (jm_Cm_body N (jrc_Cm_fun N D) m (I (n : Nat)) (lsI lst)) (km_M_body N (krc_M_behind N d) w)
  unfold jm_Cm_body jb_Cm_body_0
  have hi1 := XTR_I (k := 70) (x := w.1 70 + 1) (XTR_rf (lst := lst) (K := K) (Nk := Nk) (fof := fof) (cvr := cvr) hC hR hq) (by decide) (by decide)
  have e31 : PP (XZ m0 w0 K T nm Nk fof cvr lst g lo hi a cm q r Q sc m w) (jg_Cm_body N (jrc_Cm_fun N D) N m (lsI lst) (I (n : Nat))) (kb_M_body_31 N (krc_M_behind N d) (kg_M_body N (krc_M_behind N d) N) w) := by
    unfold kb_M_body_31
    refine r_opens ?_
    exact bd_lp c IE hxb hr4 hcl htot k n lo xa q N N m _ a cm Q sc hE hi1
  unfold km_M_body kb_M_body_0
  rw [decide_eq_true hR.1.2.2.1, br_tq, bU_m (XRS_wp c hR), bnd_s, isV_e (k := 9) (s := 4) (XRS_wp c hR) (by decide) rfl, bnd_s]
  cases bUK (K lo) with
  | false =>
    rw [show decide (b2c false = 0) = true from rfl, br_tq]
    by_cases z9 : K lo = 9
    · rw [if_pos z9, show decide ((1 : Int32) = 0) = false from rfl, br_fq]
      exact e31
    · rw [if_neg z9, show decide ((0 : Int32) = 0) = true from rfl, br_tq]
      exact pp_nr
  | true =>
    rw [show decide (b2c true = 0) = false from rfl, br_fq]
    exact e31
end
end
section
set_option maxRecDepth 100000
section
variable {α β : Type} {m0 w0 m w m2 w2 m3 w3 v u w1 mS wS : MS} {K nm Nk W W2 : Nat → Nat} {N T D d o a a0 b b0 c cm cm0 cm2 cm3 q q0 r s lo lo0 mid hi i j f f2 n k kk p p2 σ tk x xa xb M m1 lv y : Nat} {Q Q0 Q2 Q3 Q4 : Nat → Nat} {sc sc0 sc2 sc3 t t2 : SCT} {e e2 : List Nat × List Nat × Nat} {g lst l2 : Bool} {L L1 L2 S : List Nat} {idc fof cvr : Int → Int → Int} {z : Unit} {rt v1 v2 v3 v4 v5 : Int32} {fc : MS → Unit → Option (MS × α)} {RR : MS → α → MS → β → Prop} {F : MS → Unit → Option (MS × β)}
theorem XTR_29 (h : XTR m0 w0 K T nm Nk fof cvr lst g L lo hi a b cm cm2 q r Q Q2 sc sc2 m w m2 w2) (hv1 : v.1 = w2.1) (hv2 : ∀ k n, (k ≠ 29 ∨ n < Q 32) → v.2.2.1 k n = w2.2.2.1 k n) (hv3 : v.2.2.2 = w2.2.2.2) : XTR m0 w0 K T nm Nk fof cvr lst g L lo hi a b cm cm2 q r Q Q2 sc sc2 m w m2 v := by
  obtain ⟨a1, a2, a3, a4, a5, a7, a8, a9, a10, a11⟩ := h
  refine ⟨a1, a2, ⟨⟨PRS_x a3.1.1 (fun k _ => by rw [hv1]) (fun k hk => funext (fun n => hv2 k n (by omega))) (by rw [hv1]; exact a3.1.1.2.1.1), fun k hk => by rw [hv1]; exact a3.1.2 k hk⟩, a3.2⟩, a4, a5, a7, ⟨⟨fun k z1 z2 z3 => ?_, fun k n z1 z2 => ?_, fun k n z => ?_⟩, a8.2⟩, a9, a10, fun C P R J H fi hx => ?_⟩
  · rw [funext (fun n => hv2 k n (Or.inl (fun y => by rw [y] at z1; exact absurd z1 (by decide))))]
    exact a8.1.1 k z1 z2 z3
  · rw [hv2 k n ?_]
    · exact a8.1.2.1 k n z1 z2
    · by_cases y : k = 29
      · rw [y] at z2; exact Or.inr z2
      · exact Or.inl y
  · rw [hv3]; exact a8.1.2.2 k n z
  · refine a11 C P R J H ?_ hx
    refine FIN_sub fi ⟨Nat.le_refl _, Nat.le_refl _⟩ ⟨Nat.le_refl _, Nat.le_refl _⟩ QLE_rf QLE_rf (fun _ _ _ => rfl) (fun _ _ _ _ _ _ => rfl) ⟨fun k n z1 z2 z3 z4 z5 => hv2 k n (Or.inl z2), fun n _ _ => by rw [hv3]⟩ (fun n z1 z2 => ?_)
    have e30 : A v 30 n = A w2 30 n := congrArg Int32.toInt (hv2 30 n (Or.inl (by decide)))
    rw [e30]
theorem nd_w {R : MS → α → MS → β → Prop} {X : Option (MS × α)} {s' : Int32} (c : CTZ m0 w0 K T nm Nk) (hX : XRS w0 T w p Q sc) (hk : 5 ≤ k ∧ k ≤ 19) (hs : s' = I (svK k : Nat)) (h : K p = k → PP R X (F (adv w p) ())) : PP R X (bnd (km_M_needWord N w s') F) := fun m9 z9 w9 r9 x1 x2 => (pk_bnd (Q := fun w9 r9 => R m9 z9 w9 r9) (pk_ndW (PP' := fun v _ => PK (fun w9 r9 => R m9 z9 w9 r9) (F v ())) c hX hk hs (fun hk w9 r9 x2 => h hk m9 z9 w9 r9 x1 x2))) w9 r9 x2
theorem end_30 {G : MS → Int32 → Option (MS × Int32)} {R : MS → Unit → MS → Int32 → Prop} {X : Option (MS × Unit)} {rn f2 : Nat} (c : CTZ m0 w0 K T nm Nk) (ht : XTR m0 w0 K T nm Nk fof cvr lst g L lo hi a b cm cm2 q r Q Q2 sc sc2 m w m2 w2) (hab : a < b) (hlh : lo < hi) (hrn : Q 32 ≤ rn ∧ rn < Q2 32) (hrt : RTd w2 (Q 32) f2 false (Q2 32) ((rn : Nat) : Int) L) (hL : ∀ n, n ∈ L → A w2 30 n = 0) (hh : ∀ v, XZ m0 w0 K T nm Nk fof cvr lst g lo hi a cm q r Q sc m w m2 () v (I (Q2 32 : Nat)) → PP R X (G v (I (Q2 32 : Nat)))) : PP R X (bnd (fm_M_node N w2 30 (w2.1 69)) (fun u17 r17 => bnd (fm_M_addRoot N u17 r17 (I (rn : Nat))) (fun u18 _ => G u18 r17))) := by
  have hC := ht.2.1
  have hR := ht.2.2.1.1
  have t4 := c.2.1.1.1
  have pT : hi ≤ T := hR.1.2.1.2
  obtain ⟨n1, n2⟩ := XRS_q hR
  rw [hR.1.2.1.1]
  refine r_nod n1 n2 rfl (nsh (by omega)) (fun h16 => ?_)
  have hN : NOD w2 (nwD w2 (Q2 32) 30 (I (hi : Nat))) (Q2 32) := NOD_0 n1
  obtain ⟨d1, d2, d3, d4, d5, d6, d7, d8⟩ := nwD_at (w := w2) (i := Q2 32) (k := 30) (t := I (hi : Nat))
  have d9 : (nwD w2 (Q2 32) 30 (I (hi : Nat))).1 69 = I (hi : Nat) := by rw [nwD_i (by decide)]; exact hR.1.2.1.1
  generalize nwD w2 (Q2 32) 30 (I (hi : Nat)) = U at hN d1 d2 d3 d4 d5 d6 d7 d8 d9
  unfold fm_M_addRoot fb_M_addRoot_0 fb_M_addRoot_24
  rw [decide_eq_false (fun z => by
    have := (I_eq (x := ((rn : Nat) : Int)) (y := -1) (by omega) (by omega) (by decide) (by decide)).mp (z.trans rfl)
    omega), br_fq, i_nt2 (p := Q2 32) (by omega), i_nt2 (p := rn) (by omega), bnd_ck]
  refine r_ck (fun _ => ?_)
  rw [bnd_ck]
  refine r_ck (fun _ => ?_)
  rw [bnd_lt]
  refine r_lt ?_
  rw [bnd_ck]
  refine r_ck (fun _ => ?_)
  rw [bnd_lt]
  refine r_lt ?_
  rw [bnd_s, d6]
  have dN2 : NOD w2 (upA U 28 (upd (U.2.2.1 28) (Q2 32) (I (rn : Nat)))) (Q2 32) := NOD_A hN (by decide)
  have v23 : A (upA U 28 (upd (U.2.2.1 28) (Q2 32) (I (rn : Nat)))) 23 (Q2 32) = 30 := by
    show ((upA U 28 _).2.2.1 23 (Q2 32)).toInt = _
    rw [upA_no (by decide), d1]; rfl
  have h69 : (upA U 28 (upd (U.2.2.1 28) (Q2 32) (I (rn : Nat)))).1 69 = I (hi : Nat) := d9
  have hx := XTR_tr ht (XT_nod (L := []) (lst := lst) (fof := fof) (cvr := cvr) (K := K) (Nk := Nk) hC hR ht.2.2.1.2 ⟨Nat.le_refl hi, pT⟩ (fun j j1 j2 => by omega) (Nat.le_refl b) hC XFC_rf rfl dN2 rfl h16 h69 (fun n hn => by cases hn) (fun C P R J H fi hx => ⟨fun u u1 u2 => by omega, fun y hy hr => by
    have ro : ∀ k, 23 ≤ k ∧ k ≤ 31 → k ≠ 27 ∧ k ≠ 29 ∧ k ≠ 30 → R k (Q2 32) = A (upA U 28 (upd (U.2.2.1 28) (Q2 32) (I (rn : Nat)))) k (Q2 32) := fun k k1 k2 => FIN_R fi k1 k2 ⟨Nat.le_refl _, by rw [qst_at]; omega⟩
    have R23 := (ro 23 (by decide) (by decide)).trans v23
    obtain ⟨b1, b2⟩ := XB c.2.2.1 hC hR hx h16
    obtain ⟨d, hd⟩ := hr
    rw [qst_at] at hd
    exact cr_1 b1 b2 ⟨d, Or.inr (Or.inr (Or.inr (Or.inr (Or.inr (Or.inr (Or.inr (Or.inr (Or.inr (Or.inr (Or.inr (Or.inr (Or.inr (Or.inr (Or.inr (Or.inr (Or.inr (Or.inr (Or.inr (Or.inr (Or.inr (Or.inr (Or.inr (Or.inr (Or.inr (Or.inr (Or.inr (Or.inr (Or.inr (Or.inr (⟨R23, hd⟩))))))))))))))))))))))))))))))⟩⟩))
  rw [List.append_nil] at hx
  have w1 : ∀ k n, (k ≠ 29 ∨ n < Q 32) → (upA (upA U 29 (upd (U.2.2.1 29) rn (-1))) 28 (upd ((upA U 29 (upd (U.2.2.1 29) rn (-1))).2.2.1 28) (Q2 32) (I (rn : Nat)))).2.2.1 k n = (upA U 28 (upd (U.2.2.1 28) (Q2 32) (I (rn : Nat)))).2.2.1 k n := fun k n hk => by
    by_cases z : k = 28
    · subst z
      rw [upA_at, upA_at, upA_no (by decide)]
    · rw [upA_no z, upA_no z]
      by_cases y : k = 29
      · subst y
        rw [upA_at, upd_no (by have := hk.resolve_left (fun z => z rfl); omega)]
      · rw [upA_no y]
  have w28 : A (upA (upA U 29 (upd (U.2.2.1 29) rn (-1))) 28 (upd ((upA U 29 (upd (U.2.2.1 29) rn (-1))).2.2.1 28) (Q2 32) (I (rn : Nat)))) 28 (Q2 32) = ((rn : Nat) : Int) := by
    show ((upA _ 28 _).2.2.1 28 (Q2 32)).toInt = _
    rw [upA_at, upd_at]
    exact I_ti (by omega) (by omega)
  have w29 : A (upA (upA U 29 (upd (U.2.2.1 29) rn (-1))) 28 (upd ((upA U 29 (upd (U.2.2.1 29) rn (-1))).2.2.1 28) (Q2 32) (I (rn : Nat)))) 29 rn = -1 := by
    show ((upA (upA U 29 _) 28 _).2.2.1 29 rn).toInt = _
    rw [upA_no (by decide), upA_at, upd_at]; rfl
  have w29b : ∀ n, n ≠ rn → n ≠ Q2 32 → (upA (upA U 29 (upd (U.2.2.1 29) rn (-1))) 28 (upd ((upA U 29 (upd (U.2.2.1 29) rn (-1))).2.2.1 28) (Q2 32) (I (rn : Nat)))).2.2.1 29 n = w2.2.2.1 29 n := fun n h1 h2 => by
    rw [upA_no (by decide), upA_at, upd_no h1, hN.2.2.1 29 n (Or.inr (Or.inr h2))]
  have hx2 := XTR_29 (v := upA (upA U 29 (upd (U.2.2.1 29) rn (-1))) 28 (upd ((upA U 29 (upd (U.2.2.1 29) rn (-1))).2.2.1 28) (Q2 32) (I (rn : Nat)))) hx rfl w1 rfl
  generalize upA (upA U 29 (upd (U.2.2.1 29) rn (-1))) 28 (upd ((upA U 29 (upd (U.2.2.1 29) rn (-1))).2.2.1 28) (Q2 32) (I (rn : Nat))) = V at w1 w28 w29 w29b hx2
  have wr : ∀ k n, k ≠ 29 → n < Q2 32 → A V k n = A w2 k n := fun k n h1 h2 => by
    show (V.2.2.1 k n).toInt = _
    rw [w1 k n (Or.inl h1), dN2.2.2.1 k n (Or.inr (Or.inr (by omega)))]; rfl
  have V23 : A V 23 (Q2 32) = 30 := by
    show (V.2.2.1 23 (Q2 32)).toInt = _
    rw [w1 23 _ (Or.inl (by decide))]; exact v23
  refine hh V ⟨b, cm2, qst Q2 32 (Q2 32 + 1), sc2, Q2 32, f2 + 2, L, rfl, ⟨by omega, by rw [qst_at]; omega⟩, hx2, ⟨hab, hlh⟩, ?_, fun n hn => ?_⟩
  · refine ⟨Q2 32, rfl, ⟨by omega, by rw [qst_at]; omega⟩, L, ?_, by rw [V23, if_neg (by decide)]⟩
    refine Or.inr ⟨rn, L, [], w28, by rw [w28]; exact (RT_fr (w := w2) (v := V) f2).2 _ rn L (fun n _ h2 => ⟨wr 23 n (by decide) (by omega), wr 28 n (by decide) (by omega)⟩) (fun n _ h2 => congrArg Int32.toInt (w29b n (by omega) (by omega))) hrt, ?_, by rw [List.append_nil]⟩
    rw [w29]
    cases f2 with
    | zero => exact hrt.elim
    | succ f2 => exact Or.inl ⟨rfl, rfl⟩
  · have := ht.2.2.2.2.2.2.2.2.1 n hn
    rw [wr 30 n (by decide) this.2]; exact hL n hn
theorem x_blk (c : CTZ m0 w0 K T nm Nk) (IE : HXE N m0 w0 K T nm Nk fof cvr f) (hC : XCS m0 nm m a cm sc g) (hR : XRS w0 T w lo Q sc) (hq : Q 56 = q) (hn : n ≤ 8015) (h16 : A m0 16 n = 8) (h17 : A m0 17 n = ((lo : Nat) : Int)) (h18 : A m0 18 n = ((x : Nat) : Int)) (hE : RWcK m0 1 26 (XPcK m0 f o 3) k x (lo + 1) (hi - 1) xa xb q r) (hxb : xb ≤ 8015) (h6 : A m0 6 lo = 7) (h6b : A m0 6 (hi - 1) = 11) (hr4 : r ≤ 400) (hiT : hi ≤ T) (htot : tot sc + (hi - lo) ≤ 4000 ∧ sc.length ≤ o + 1) : PP (XZ m0 w0 K T nm Nk fof cvr lst g lo hi a cm q r Q sc m w) (jm_Cm_expression N (jrc_Cm_fun N D) m (I (n : Nat)) (lsI lst)) (km_M_alone N (krc_M_behind N d) w (I (lo : Nat))) := by
  have t4 := c.2.1.1.1
  have fr := XCS_fr hC
  have hb : BdE (XPcK m0 f o 3) := XP_bdK f o 3
  have hd := (RW_hdK hb hE).1
  unfold HDc at hd
  have k7 : K lo = 7 := kA c (by omega : lo ≤ T) h6
  have k11 : K (hi - 1) = 11 := kA c (by omega : hi - 1 ≤ T) h6b
  obtain ⟨e, t, rfl⟩ := PRS_ne hR.1
  refine exd_8 hn (tre fr (by decide) h16) (l_id ?_)
  cases D with
  | zero => exact pp_nl
  | succ D =>
  show PP _ (jm_Cm_compound N (jrc_Cm_fun N D) m (I (n : Nat)) (lsI lst)) _
  refine cmd_8 hn (tre fr (by decide) h16) hC.2 (tre fr (by decide) h17) (by omega) (fun hg => l_ck (fun _ => ?_))
  rw [tre fr (by decide) h18, hC.1.2.1.2.2.1]
  refine al_wrd c hR (Or.inl k7) (fun u xx hX hu => ?_)
  rw [decide_eq_false (by omega), br_fq]
  cases d with
  | zero => exact pp_nr
  | succ d =>
  have hi0 : XTR m0 w0 K T nm Nk fof cvr lst g [] lo lo a a cm cm q q Q Q (e :: t) (e :: t) m w m u := XTR_mv (XTR_rf hC hR hq) hX hu (Nat.le_refl _) (fun j a b => by omega)
  have rn := hX.1.2.2.2.1
  have tl : t.length + 1 ≤ 27 := rn.2.1.2
  have h60 : u.2.2.1 60 t.length = I (e.1.length : Nat) := rn.2.2.1.1.1
  have h65 : u.1 65 = I (t.length : Nat) := rn.1
  have hw := XRS_wp c hX
  have h7 : u.2.2.1 7 lo = I ((2 : Nat) : Int) := by
    have := hw.1.2.2 lo (by omega) (by omega)
    rw [k7] at this
    exact this
  show PP _ _ (bnd (kb_M_block_0 N (krc_M_behind N d) () u (I (lo : Nat))) _)
  unfold kb_M_block_0
  rw [h65, hX.1.2.1.1, i_nt2 (p := t.length) (by omega), i_nt2 (p := lo) (by omega), h60, h7, bnd_ck]
  refine r_ck (fun _ => ?_)
  rw [bnd_lt]
  refine r_lt ?_
  rw [bnd_ck]
  refine r_ck (fun _ => ?_)
  rw [bnd_lt]
  refine r_lt ?_
  rw [show decide (I ((2 : Nat) : Int) = (2 : Int32)) = true from rfl, br_tq]
  unfold kb_M_block_49
  have e69 : u.1 69 + 1 = I ((lo + 1 : Nat) : Int) := by rw [hX.1.2.1.1, i_suc]
  rw [e69, show upI u 69 (I ((lo + 1 : Nat) : Int)) = adv u lo from rfl, bnd_lt, lt_e, show decide (I ((2 : Nat) : Int) = (2 : Int32)) = true from rfl, br_tq, bnd_as2]
  have ht := XTR_ad hi0 (by omega) (by omega)
  refine pp_bb (pp_mo (x_body (o := o) (k := k) (lst := lst) c IE hE hxb hr4 ⟨by rw [k11]; exact ⟨rfl, by decide, by decide, by decide⟩, by rw [k11]; decide, by omega⟩ hC ht.2.2.1.1 hq (by omega)) (fun m2 z w2 rt hz => ?_))
  obtain ⟨Q2', sc2', hX2⟩ := XZ_pr hz
  rw [bnd_as2]
  refine nd_w c hX2 (k := 11) (s' := 6) (by decide) rfl (fun _ => ?_)
  have hz2 := XZ_out (v := adv w2 (hi - 1)) (hi := hi) (XZ_in ht hz) (fun Q2 sc2 h => by
    have := XRS_ad h (show hi - 1 < T by omega)
    rw [show hi - 1 + 1 = hi by omega] at this
    exact this) rfl (by omega) (fun j j1 j2 => by rw [show j = hi - 1 by omega]; omega)
  obtain ⟨b, cm2, Q2, sc2, rn2, f2, L, rfl, z2, z3, z4, z5, z6⟩ := hz2
  rw [bnd_as2]
  refine fg_pp c z3 (fun m3 w3 b' Q3 sc3 ht3 hsc3 hQ3 hq3 hbb hrw => ?_)
  unfold jb_Cm_compound_455
  have qle : Q2 32 ≤ Q3 32 := by rcases hQ3 with rfl | rfl <;> (try rw [qst_at]) <;> omega
  have rw3 : ∀ k n, grp k = 32 → n < Q2 32 → A w3 k n = A (adv w2 (hi - 1)) k n := fun k n h1 h2 => congrArg Int32.toInt (hq3.2.1 k n (by rw [h1]; decide) (by rw [h1]; exact h2))
  rw [bnd_as2]
  have hrt3 : RTd w3 (Q 32) f2 false (Q3 32) ((rn2 : Nat) : Int) L := RT_w (Nat.le_refl _) f2 false _ _ _ _ qle ((RT_fr (w := adv w2 (hi - 1)) (v := w3) f2).2 _ rn2 L (fun n _ h2 => ⟨rw3 23 n rfl (by omega), rw3 28 n rfl (by omega)⟩) (fun n _ h2 => rw3 29 n rfl (by omega)) z5)
  have := end_30 (N := N) (R := XZ m0 w0 K T nm Nk fof cvr lst g lo hi a cm q r Q (e :: t) m w) (X := some (m3, ())) (G := fun u18 r17 => some (upI u18 73 xx, r17)) c ht3 (by omega) (by omega) ⟨z2.1, by omega⟩ hrt3 (fun n hn => by
    have := z3.2.2.2.2.2.2.2.2.1 n hn
    rw [rw3 30 n rfl this.2]; exact z6 n hn) (fun v hzv => pp_end (XZ_out hzv (fun Q2 sc2 h => XRS_I h (by decide) (by decide)) rfl (Nat.le_refl _) (fun j a b => by omega)))
  simp only [bnd_as2]
  exact this
end
end
section
set_option maxRecDepth 100000
section
variable {α β : Type} {m0 w0 m w m2 w2 m3 w3 v u w1 mS wS : MS} {K nm Nk W W2 : Nat → Nat} {N T D d o a a0 b b0 c cm cm0 cm2 cm3 q q0 r s lo lo0 mid hi i j f f2 n k kk p p2 σ tk x xa xb M m1 lv y : Nat} {Q Q0 Q2 Q3 Q4 : Nat → Nat} {sc sc0 sc2 sc3 t t2 : SCT} {e e2 : List Nat × List Nat × Nat} {g lst l2 : Bool} {L L1 L2 S : List Nat} {idc fof cvr : Int → Int → Int} {z : Unit} {rt v1 v2 v3 v4 v5 t4 t5 : Int32} {fc : MS → Int32 → Option (MS × α)} {RR : MS → α → MS → β → Prop} {F : MS → Int32 → Option (MS × β)}
theorem gm_x {X : MS → Unit → Option (MS × α)} {Y : MS → Option (MS × β)} (c : CTZ m0 w0 K T nm Nk) (ht : XTR m0 w0 K T nm Nk fof cvr lst true [] lo mid a b cm cm2 q r Q Q2 sc sc2 m w m2 w2) (hh : ∀ m3 v, XTR m0 w0 K T nm Nk fof cvr lst true [] lo mid a (b + 1) cm cm2 q r Q (qst Q2 32 (Q2 32 + 1)) sc sc2 m w m3 v → PP RR (X m3 ()) (Y v)) : PP RR (bnd (jm_Co_put N m2 22) X) (bnd (fm_M_node N w2 22 (w2.1 69)) (fun u3 _ => Y u3)) := by
  have hC := ht.2.1
  have hR := ht.2.2.1.1
  have t4 := c.2.1.1.1
  have hl : mid ≤ T := hR.1.2.1.2
  refine l_put hC.1.2.2.1.1 hC.1.2.2.1.2.2 (fun ha => ?_)
  have h1 := XCS_put (x := 22) hC ha
  obtain ⟨n1, n2⟩ := XRS_q hR
  rw [hR.1.2.1.1]
  refine r_nod n1 n2 rfl (nsh (by omega)) (fun h16 => ?_)
  have hN : NOD w2 (nwD w2 (Q2 32) 22 (I (mid : Nat))) (Q2 32) := NOD_0 n1
  obtain ⟨d1, -⟩ := nwD_at (w := w2) (i := Q2 32) (k := 22) (t := I (mid : Nat))
  have d9 : (nwD w2 (Q2 32) 22 (I (mid : Nat))).1 69 = I (mid : Nat) := by rw [nwD_i (by decide)]; exact hR.1.2.1.1
  generalize nwD w2 (Q2 32) 22 (I (mid : Nat)) = v at hN d1 d9
  have a23 : A v 23 (Q2 32) = 22 := congrArg Int32.toInt d1
  have em : ptc m2 b 22 = ptcs m2 b [22] := rfl
  refine hh _ v (XTR_tr ht (XT_nod (L := []) (b := b + 1) hC hR ht.2.2.1.2 ⟨Nat.le_refl _, hl⟩ (fun j j1 j2 => by omega) (by omega) h1 (by rw [em]; exact XFC_ps XFC_rf (Nat.le_refl _)) (by rw [em]; exact ptcs_r (by decide)) hN rfl h16 d9 (fun n hn => by cases hn) (fun C P R J H fi hx => ⟨fun u u1 u2 => by omega, fun y hy hr => ?_⟩)))
  have gc := fi.1
  rw [em] at gc
  have ro : ∀ k, 23 ≤ k ∧ k ≤ 31 → k ≠ 27 ∧ k ≠ 29 ∧ k ≠ 30 → R k (Q2 32) = A v k (Q2 32) := fun k k1 k2 => FIN_R fi k1 k2 ⟨Nat.le_refl _, by rw [qst_at]; omega⟩
  have R23 := (ro 23 (by decide) (by decide)).trans a23
  have c0 := C_0 gc (show b < b + 1 by omega)
  have yn : y ≠ none := fun z => by have := hy.mp z; cases this
  obtain ⟨b1, b2⟩ := XB c.2.2.1 hC hR hx h16
  obtain ⟨d, hd⟩ := hr
  rw [qst_at] at hd
  exact cr_1 b1 b2 ⟨d, Or.inr (Or.inr (Or.inr (Or.inr (Or.inr (Or.inr (Or.inr (Or.inr (Or.inr (Or.inr (Or.inr (Or.inr (Or.inr (Or.inr (Or.inr (Or.inr (Or.inr (Or.inr (Or.inr (Or.inr (Or.inr (Or.inr (Or.inr (Or.inl ⟨R23, yn, c0, hd⟩)))))))))))))))))))))))⟩
theorem gd_lp (c : CTZ m0 w0 K T nm Nk) (IE : HXE N m0 w0 K T nm Nk fof cvr f) (hxb : xb ≤ 8015) (hr4 : r ≤ 400) (hcl : NEC (K hi) ∧ K hi ≠ 26 ∧ hi ≤ T) (htot : tot sc0 + (hi - lo0) ≤ 4000 ∧ sc0.length ≤ o + 1)
    (hh : ∀ M kf m2 w2 b cm2 Q2 sc2, a0 < b → XTR m0 w0 K T nm Nk fof cvr lst true [] lo0 hi a0 b cm0 cm2 q0 r Q0 Q2 sc0 sc2 mS wS m2 w2 → PP RR (bnd ((jg_Cm_tries N (jrc_Cm_fun N D) kf).2 m2 v4 v5 (I ((0 : Nat) : Int))) fc) (bnd (kg_M_guardCode N (krc_M_behind N d) M w2 v1 v2 v3 0) F)) : ∀ (k n lo xa q M kf : Nat) (m w : MS) (a cm : Nat) (Q : Nat → Nat) (sc : SCT), RWcK m0 1 26 (XPcK m0 f o 3) k n lo hi xa xb q r → XTR m0 w0 K T nm Nk fof cvr lst true [] lo0 lo a0 a cm0 cm q0 q Q0 Q sc0 sc mS wS m w → PP RR (bnd ((jg_Cm_tries N (jrc_Cm_fun N D) kf).2 m v4 v5 (I (n : Nat))) fc) (bnd (kg_M_guardCode N (krc_M_behind N d) M w v1 v2 v3 1) F)
  | 0, n, lo, xa, q, M, kf, m, w, a, cm, Q, sc, h, ht => h.elim
  | k + 1, n, lo, xa, q, M, kf, m, w, a, cm, Q, sc, h, ht => by
    have t4 := c.2.1.1.1
    obtain ⟨mid, c1, s, e, h⟩ := h
    have hd := xp_hd e
    have hb : BdE (XPcK m0 f o 3) := XP_bdK f o 3
    have hC := ht.2.1
    have hR := ht.2.2.1.1
    have l1 := ht.1
    have tt := ht.2.2.2.1
    have ttl := XTR_len ht
    cases kf with
    | zero => exact pp_nl
    | succ kf =>
    cases M with
    | zero => exact pp_nr
    | succ M =>
    show PP RR (bnd (jb_Cm_tries_181 N (jrc_Cm_fun N D) (jg_Cm_tries N (jrc_Cm_fun N D) kf) m v4 v5 (I (n : Nat))) fc) (bnd (kb_M_guardCode_39 N (krc_M_behind N d) (kg_M_guardCode N (krc_M_behind N d) M) w v1 v2 v3 1) F)
    unfold jb_Cm_tries_181 kb_M_guardCode_39
    have hms : mid ≤ hi ∧ c1 ≤ xb ∧ s ≤ r ∧ n ≤ 8015 ∧ (NEC (K mid) ∧ mid ≤ T) := by
      rcases h with ⟨-, -, rfl, rfl, rfl⟩ | ⟨⟨-, k26⟩, n2, -, hw⟩
      · exact ⟨Nat.le_refl _, Nat.le_refl _, Nat.le_refl _, by omega, hcl.1, hcl.2.2⟩
      · have := (RW_hdK hb hw).1
        unfold HDc at this
        have km : K mid = 26 := kA c (by omega) (k26 rfl)
        exact ⟨by omega, by omega, by omega, by omega, by rw [km]; exact ⟨rfl, by decide, by decide, by decide⟩, by omega⟩
    rw [decide_eq_false (fun z => by
      have := (I_eq (x := ((n : Nat) : Int)) (y := 0) (by omega) (by omega) (by decide) (by decide)).mp z
      omega), br_fq, show decide ((1 : Int32) = 0) = false from rfl, br_fq, bnd_as2, bnd_as2]
    refine pp_bb (pp_mo (IE D d o n lo mid xa c1 q s m w a cm Q sc true false e (by omega) (by omega) hms.2.2.2.2 hC hR ht.2.2.1.2 (by omega)) (fun m2 z w2 rt hz => ?_))
    have hab : a0 < (hz.choose : Nat) := by
      have := hz.choose_spec
      obtain ⟨_, _, _, _, _, _, -, -, -, z4, -⟩ := this
      omega
    obtain ⟨b2, cm2, Q2, sc2, rn, f2, L, z1, z2, z3, z4, z5, z6⟩ := hz
    have ht2 := XTR_tr ht (XTR_nl (lst := lst) z3)
    rw [bnd_as2, bnd_as2]
    refine gm_x (Y := fun u5 => bnd (bnd (fm_M_takeSign N u5 6) (fun u6 r6 => kg_M_guardCode N (krc_M_behind N d) M u6 v1 v2 v3 r6)) F) c ht2 (fun m3 v ht3 => ?_)
    have hX3 := ht3.2.2.1.1
    have fr3 := XCS_fr ht3.2.1
    rw [bnd_ck, i_nt2 (show n ≤ 100000 by omega)]
    refine l_ck (fun _ => ?_)
    rw [bnd_as2, tkS_e (k := 26) (s := 6) (XRS_wp c hX3) hX3.1.2.2.1 (by decide) rfl]
    rcases h with ⟨rfl, h21, rfl, rfl, rfl⟩ | ⟨⟨hk1, hk26⟩, n2, h21, hw⟩
    · rw [if_neg hcl.2.1, bnd_s, tre fr3 (by decide) h21]
      exact hh M kf m3 v _ cm2 _ sc2 (by omega) ht3
    · have hw1 := (RW_hdK hb hw).1
      unfold HDc at hw1
      have km : K mid = 26 := kA c (by omega) (hk26 rfl)
      rw [if_pos km, bnd_s, tre fr3 (by decide) h21]
      exact gd_lp c IE hxb hr4 hcl htot hh k n2 (mid + 1) c1 s M kf m3 (adv v mid) _ cm2 _ sc2 hw (XTR_ad ht3 (by omega) (by omega))
end
end
section
set_option maxRecDepth 100000
def HKc (m : MS) : List Nat → Int32 → Prop
  | [], v => v = 0
  | h :: hs, v => v = I (h : Nat) ∧ (0 < h ∧ h < 24000) ∧ (∀ h', h' ∈ hs → h' < h) ∧ HKc m hs (m.2.2.1 23 h)
def HKz (m Z : MS) (hs : List Nat) (b : Nat) : Prop := Z.1 = m.1 ∧ (∀ k, k ≠ 23 → Z.2.2.1 k = m.2.2.1 k) ∧ Z.2.2.2 = m.2.2.2 ∧ (∀ j, j ∉ hs → Z.2.2.1 23 j = m.2.2.1 23 j) ∧ ∀ j, j ∈ hs → Z.2.2.1 23 j = I (b : Nat)
section
variable {α β : Type} {m0 w0 m w m2 w2 m3 w3 v u Z : MS} {K nm Nk W W2 : Nat → Nat} {N T D d o a b b' c cm x i M : Nat} {sc : SCT} {g : Bool} {hs : List Nat} {v1 : Int32} {RU : MS → α → MS → β → Prop} {fA : MS → Unit → Option (MS × α)} {BU : Option (MS × β)}
theorem Kco_Z (h : XCS m0 nm m a cm sc g) (h1 : Z.1 = m.1) (h2 : ∀ k, k ≠ 23 → Z.2.2.1 k = m.2.2.1 k) : XCS m0 nm Z a cm sc g := by
  obtain ⟨z1, z2⟩ := Z
  have h1 : z1 = m.1 := h1
  subst h1
  obtain ⟨⟨h1, h3, h4, h5, h6, h7⟩, h8⟩ := h
  exact ⟨⟨⟨h1.1, fun k hk => (h2 k (by omega)).trans (h1.2 k hk)⟩, ⟨h3.1, h3.2.1, h3.2.2.1, h3.2.2.2.1, CNl_fr h3.2.2.2.2 (h2 40 (by decide)) (fun j _ => by rw [h2 39 (by decide)])⟩, h4, h5, by rw [h2 41 (by decide)]; exact h6, h7⟩, h8⟩
theorem HKc_fr : ∀ {hs : List Nat} {v : Int32}, HKc m hs v → (∀ j, j ∈ hs → m2.2.2.1 23 j = m.2.2.1 23 j) → HKc m2 hs v
  | [], _, h, _ => h
  | h :: hs, v, k, hh => ⟨k.1, k.2.1, k.2.2.1, by rw [hh h List.mem_cons_self]; exact HKc_fr k.2.2.2 (fun j hj => hh j (List.mem_cons_of_mem _ hj))⟩
theorem HKc_len : ∀ {hs : List Nat} {v : Int32}, HKc m hs v → ∀ n, (∀ h, h ∈ hs → h < n) → hs.length ≤ n
  | [], _, _, n, _ => Nat.zero_le n
  | h :: hs, v, k, n, hn => by
    have h1 := hn h List.mem_cons_self
    have := HKc_len k.2.2.2 h k.2.2.1
    show hs.length + 1 ≤ n
    omega
theorem arr_lp (h441 : m.1 441 = I (b : Nat)) : ∀ (hs : List Nat) (M i : Nat) (u : MS) (v : Int32), u.1 = m.1 → HKc u hs v → i + hs.length ≤ 24000 → (∀ Z, HKz u Z hs b → PP RU (fA Z ()) BU) → PP RU (bnd (hg_Co_arrive N M u v (I (i : Nat))) fA) BU
  | _, 0, _, _, _, _, _, _, _ => pp_nl
  | [], M + 1, i, u, v, hu, hk, hi, hh => by
    have hk : v = 0 := hk
    subst hk
    show PP RU (bnd (hb_Co_arrive_4 N (hg_Co_arrive N M) u 0 (I (i : Nat))) fA) BU
    unfold hb_Co_arrive_4 hb_Co_arrive_40
    have e : PP RU (fA u ()) BU := hh u ⟨rfl, fun _ _ => rfl, rfl, fun _ _ => rfl, fun j hj => by cases hj⟩
    rw [show decide ((0 : Int32) = 0) = true from rfl, br_tq]
    by_cases z : decide ((24000 : Int32) ≤ I (i : Nat)) = true
    · rw [z, br_tq, bnd_s]; exact e
    · rw [Bool.eq_false_iff.mpr z, br_fq, bnd_s]; exact e
  | x :: hs, M + 1, i, u, v, hu, hk, hi, hh => by
    obtain ⟨rfl, hx, hlt, hk2⟩ := hk
    have hi2 : i + (hs.length + 1) ≤ 24000 := hi
    show PP RU (bnd (hb_Co_arrive_4 N (hg_Co_arrive N M) u (I (x : Nat)) (I (i : Nat))) fA) BU
    unfold hb_Co_arrive_4
    have d1 : decide (I (x : Nat) < (0 : Int32)) = false := decide_eq_false (fun z => by
      have := (I_lt (x := ((x : Nat) : Int)) (y := 0) (by omega) (by omega) (by decide) (by decide)).mp z
      omega)
    have d2 : decide (I (x : Nat) < (24000 : Int32)) = true := decide_eq_true ((I_lt (x := ((x : Nat) : Int)) (y := 24000) (by omega) (by omega) (by decide) (by decide)).mpr (by omega))
    have d3 : decide ((24000 : Int32) ≤ I (x : Nat)) = false := decide_eq_false (fun z => by
      have := (I_le (x := 24000) (y := ((x : Nat) : Int)) (by decide) (by decide) (by omega) (by omega)).mp z
      omega)
    have d4 : decide ((24000 : Int32) ≤ I (i : Nat)) = false := decide_eq_false (fun z => by
      have := (I_le (x := 24000) (y := ((i : Nat) : Int)) (by decide) (by decide) (by omega) (by omega)).mp z
      omega)
    rw [d4, br_fq, decide_eq_false (fun z => by
      have := (I_eq (x := ((x : Nat) : Int)) (y := 0) (by omega) (by omega) (by decide) (by decide)).mp z
      omega), br_fq]
    unfold hm_Co_at hb_Co_at_0 hb_Co_at_21 hm_Co_set hb_Co_set_0 hb_Co_set_18
    rw [d1, br_fq, d2, br_tq, i_inb (by omega) (by decide), ck_t, bnd_s, br_fq, d3, br_fq, ck_t, i_nt2 (p := x) (by omega), hu, h441, lt_e, bnd_s, i_suc]
    have eb : ∀ gg, (upA u 23 gg).1 = m.1 := fun _ => hu
    refine arr_lp h441 hs M (i + 1) _ _ (eb _) (HKc_fr hk2 (fun j hj => by rw [upA_at, upd_no (by have := hlt j hj; omega)])) (by omega) (fun Z hZ => hh Z ?_)
    obtain ⟨z1, z2, z3, z4, z5⟩ := hZ
    refine ⟨z1, fun k hk => by rw [z2 k hk, upA_no hk], z3, fun j hj => ?_, fun j hj => ?_⟩
    · have h1 : j ∉ hs := fun y => hj (List.mem_cons_of_mem _ y)
      have h2 : j ≠ x := fun y => hj (by rw [y]; exact List.mem_cons_self)
      rw [z4 j h1, upA_at, upd_no h2]
    · by_cases y : j ∈ hs
      · exact z5 j y
      · rcases List.mem_cons.mp hj with rfl | y2
        · rw [z4 _ y, upA_at, upd_at]
        · exact absurd y2 y
theorem arr_n (hC : XCS m0 nm m b cm sc g) (hk : HKc m hs v1) (h : ∀ Z, HKz m Z hs b → XCS m0 nm Z b cm sc g → PP RU (fA Z ()) BU) : PP RU (bnd (hm_Co_arrive N m v1) fA) BU := by
  have hl : hs.length ≤ 24000 := HKc_len hk 24000 (fun x hx => by
    clear h
    cases hs with
    | nil => cases hx
    | cons y hs =>
      obtain ⟨-, h2, h3, -⟩ := hk
      rcases List.mem_cons.mp hx with rfl | z
      · exact h2.2
      · have := h3 x z; omega)
  unfold hm_Co_arrive hb_Co_arrive_0
  exact arr_lp hC.1.2.2.1.1 hs N 0 m v1 rfl hk (by omega) (fun Z hZ => h Z hZ (Kco_Z hC hZ.1 hZ.2.1))
end
end
section
set_option maxRecDepth 100000
def XTF (m0 w0 : MS) (K : Nat → Nat) (T : Nat) (nm Nk : Nat → Nat) (g : Bool) (L : List Nat) (lo hi a b cm cm2 q r : Nat) (Q Q2 : Nat → Nat) (sc sc2 : SCT) (m w m2 w2 : MS) : Prop := (lo ≤ hi ∧ a ≤ b ∧ cm ≤ cm2 ∧ q ≤ r) ∧ XCS m0 nm m2 b cm2 sc2 g ∧ (XRS w0 T w2 hi Q2 sc2 ∧ Q2 56 = r) ∧ tot sc2 ≤ tot sc + (hi - lo) ∧ (∃ W, HDx nm Nk K W lo hi sc sc2 ∧ m2.2.2.1 42 = wup (m.2.2.1 42) K W lo hi) ∧ XFC m m2 a q r (sc.length - 1) ∧ XRF w w2 Q Q2 ∧ (g = true → (hdS sc2).1 = (hdS sc).1) ∧ (∀ n, n ∈ L → Q 32 ≤ n ∧ n < Q2 32)
def FNx (w0 : MS) (fof cvr : Int → Int → Int) (C : Nat → Int) (P R : Nat → Nat → Int) (J : Nat → Int64) (m w : MS) (a b q r : Nat) (Q Q2 : Nat → Nat) (lst : Bool) (L hs ps : List Nat) : Prop := (∀ k, a ≤ k → k < b → k ∉ hs → C k = A m 23 k) ∧ AGQ P m q r ∧ GRS R w0 ∧ ((∀ k n, k ≠ 27 → k ≠ 29 → k ≠ 30 → k ≠ 34 → grp k ∈ [32, 39, 46, 56, 58] → Q (grp k) ≤ n → n < Q2 (grp k) → (k = 45 → n ∉ ps) → R k n = A w k n) ∧ (∀ n, Q 32 ≤ n → n < Q2 32 → R 23 n ≠ 12 → R 23 n ≠ 15 → R 27 n = A w 27 n) ∧ (∀ n, Q 32 ≤ n → n < Q2 32 → R 30 n = if lst = true ∧ n ∈ L then 1 else A w 30 n) ∧ ∀ n, Q 39 ≤ n → n < Q2 39 → J n = w.2.2.2 34 n) ∧ RQX fof cvr R (Q 32) (Q2 32)
section
variable {m0 w0 m w m2 w2 m3 w3 v u : MS} {K nm Nk W W2 : Nat → Nat} {T a b c cm cm2 cm3 q r s lo mid hi i j f f2 n x k p σ a3 b3 q3 r3 : Nat} {Q Q2 Q3 Q4 : Nat → Nat} {sc sc2 sc3 t : SCT} {g lst : Bool} {L L1 L2 L3 hs ps hs2 ps2 : List Nat} {fof cvr : Int → Int → Int} {C : Nat → Int} {P R : Nat → Nat → Int} {J : Nat → Int64} {H O : List Nat} {y : Option (Nat × Nat × Nat)}
theorem XTF_len (h : XTF m0 w0 K T nm Nk g L lo mid a b cm cm2 q r Q Q2 sc sc2 m w m2 w2) : sc2.length = sc.length := by
  obtain ⟨W, a5, -⟩ := h.2.2.2.2.1
  exact NWX_len (a5.2 rfl).2
theorem XTF_of (h : XTR m0 w0 K T nm Nk fof cvr lst g L lo hi a b cm cm2 q r Q Q2 sc sc2 m w m2 w2) : XTF m0 w0 K T nm Nk g L lo hi a b cm cm2 q r Q Q2 sc sc2 m w m2 w2 ∧ CDX w0 nm fof cvr lst g L a b cm2 q r Q Q2 sc sc2 m2 w2 := by
  obtain ⟨a1, a2, a3, a4, a5, a6, a7, a8, a9, a10⟩ := h
  exact ⟨⟨a1, a2, a3, a4, a5, a6, a7, a8, a9⟩, a10⟩
theorem XTR_of (h : XTF m0 w0 K T nm Nk g L lo hi a b cm cm2 q r Q Q2 sc sc2 m w m2 w2) (k : CDX w0 nm fof cvr lst g L a b cm2 q r Q Q2 sc sc2 m2 w2) : XTR m0 w0 K T nm Nk fof cvr lst g L lo hi a b cm cm2 q r Q Q2 sc sc2 m w m2 w2 := by
  obtain ⟨a1, a2, a3, a4, a5, a6, a7, a8, a9⟩ := h
  exact ⟨a1, a2, a3, a4, a5, a6, a7, a8, a9, k⟩
theorem XTF_tr (h : XTF m0 w0 K T nm Nk g L1 lo mid a b cm cm2 q r Q Q2 sc sc2 m w m2 w2) (k : XTF m0 w0 K T nm Nk g L2 mid hi b c cm2 cm3 r s Q2 Q3 sc2 sc3 m2 w2 m3 w3) : XTF m0 w0 K T nm Nk g (L1 ++ L2) lo hi a c cm cm3 q s Q Q3 sc sc3 m w m3 w3 := by
  obtain ⟨a1, a2, a3, a4, ⟨W, a5, a6⟩, a7, a8, a9, a10⟩ := h
  obtain ⟨b1, b2, b3, b4, ⟨W2, b5, b6⟩, b7, b8, b9, b10⟩ := k
  have ln : sc2.length = sc.length := NWX_len (a5.2 rfl).2
  rw [ln] at b7
  have q32 : Q 32 ≤ Q2 32 := a8.2.1 32 (by decide)
  have q32b : Q2 32 ≤ Q3 32 := b8.2.1 32 (by decide)
  refine ⟨⟨by omega, by omega, by omega, by omega⟩, b2, b3, by omega, ⟨mrw mid W W2, HDx_cat a1.1 b1.1 a5 b5, ?_⟩, XFC_tr a7 b7 a1.2.1 a1.2.2.2 b1.2.2.2, XFR_tr a8 b8, fun z => (b9 z).trans (a9 z), fun n hn => ?_⟩
  · rw [b6, a6, wup_cat a1.1 b1.1]
  · rcases List.mem_append.mp hn with z | z
    · have := a10 n z; omega
    · have := b10 n z; omega
theorem FNx_sub (h : FNx w0 fof cvr C P R J m3 w3 a3 b3 q3 r3 Q3 Q4 lst L3 hs ps) (ha : a3 ≤ a ∧ b ≤ b3) (hq : q3 ≤ q ∧ r ≤ r3) (h1 : QLE Q3 Q) (h2 : QLE Q2 Q4) (hc : ∀ j, a ≤ j → j < b → m3.2.2.1 23 j = m.2.2.1 23 j) (hp : ∀ k u, 30 ≤ k → k ≤ 32 → q ≤ u → u < r → m3.2.2.1 k u = m.2.2.1 k u) (hs1 : SAM w w3 Q Q2) (hl : ∀ n, Q 32 ≤ n → n < Q2 32 → (if lst = true ∧ n ∈ L3 then 1 else A w3 30 n) = if lst = true ∧ n ∈ L then 1 else A w 30 n) (n1 : ∀ j, j ∈ hs → j < a ∨ b ≤ j) (n2 : ∀ j, j ∈ ps → j < Q 46 ∨ Q2 46 ≤ j) : FNd w0 fof cvr C P R J m w a b q r Q Q2 lst L := by
  obtain ⟨g1, g2, g3, ⟨g4, g5, g6, g7⟩, g8⟩ := h
  have hA : ∀ k n, grp k ≠ 0 → k ≠ 29 → k ≠ 30 → Q (grp k) ≤ n → n < Q2 (grp k) → A w3 k n = A w k n := fun k n x1 x2 x3 x4 x5 => congrArg Int32.toInt (hs1.1 k n x1 x2 x3 x4 x5)
  have lo32 : ∀ n, Q 32 ≤ n → Q3 32 ≤ n := fun n z => Nat.le_trans (h1 32 (by decide)) z
  have hi32 : ∀ n, n < Q2 32 → n < Q4 32 := fun n z => Nat.lt_of_lt_of_le z (h2 32 (by decide))
  refine ⟨fun j z1 z2 => ?_, fun k u z1 z2 z3 z4 => ?_, g3, ⟨fun k n z1 z2 z3 z4 z5 z6 z7 => ?_, fun n z1 z2 z3 z4 => ?_, fun n z1 z2 => ?_, fun n z1 z2 => ?_⟩, fun n z1 z2 => g8 n (lo32 n z1) (hi32 n z2)⟩
  · rw [g1 j (by omega) (by omega) (fun y => by have := n1 j y; omega)]
    exact congrArg Int32.toInt (hc j z1 z2)
  · rw [g2 k u z1 z2 (by omega) (by omega)]
    exact congrArg Int32.toInt (hp k u z1 z2 z3 z4)
  · have g0 : grp k ≠ 0 := fun z => by rw [z] at z5; revert z5; decide
    rw [g4 k n z1 z2 z3 z4 z5 (Nat.le_trans (h1 _ (grp_m g0)) z6) (Nat.lt_of_lt_of_le z7 (h2 _ (grp_m g0))) (fun e y => by
      subst e
      have z6 : Q 46 ≤ n := z6
      have z7 : n < Q2 46 := z7
      have := n2 n y
      omega)]
    exact hA k n g0 z2 z3 z6 z7
  · rw [g5 n (lo32 n z1) (hi32 n z2) z3 z4]
    exact hA 27 n (by decide) (by decide) (by decide) z1 z2
  · rw [g6 n (lo32 n z1) (hi32 n z2)]
    exact hl n z1 z2
  · rw [g7 n (Nat.le_trans (h1 39 (by decide)) z1) (Nat.lt_of_lt_of_le z2 (h2 39 (by decide)))]
    exact hs1.2 n z1 z2
theorem FNx_0 (h : FNd w0 fof cvr C P R J m w a b q r Q Q2 lst L) : FNx w0 fof cvr C P R J m w a b q r Q Q2 lst L hs ps := by
  obtain ⟨g1, g2, g3, ⟨g4, g5, g6, g7⟩, g8⟩ := h
  exact ⟨fun k k1 k2 _ => g1 k k1 k2, g2, g3, ⟨fun k n z1 z2 z3 z4 z5 z6 z7 _ => g4 k n z1 z2 z3 z4 z5 z6 z7, g5, g6, g7⟩, g8⟩
theorem FNx_mo (h : FNx w0 fof cvr C P R J m3 w3 a3 b3 q3 r3 Q3 Q4 lst L3 hs ps) (ha : a3 ≤ a ∧ b ≤ b3) (hq : q3 ≤ q ∧ r ≤ r3) (h1 : QLE Q3 Q) (h2 : QLE Q2 Q4) (hc : ∀ j, a ≤ j → j < b → j ∉ hs2 → m3.2.2.1 23 j = m.2.2.1 23 j) (hp : ∀ k u, 30 ≤ k → k ≤ 32 → q ≤ u → u < r → m3.2.2.1 k u = m.2.2.1 k u) (hs1 : ∀ k n, grp k ≠ 0 → k ≠ 29 → k ≠ 30 → Q (grp k) ≤ n → n < Q2 (grp k) → (k = 45 → n ∉ ps2) → w3.2.2.1 k n = w.2.2.1 k n) (hj : ∀ n, Q 39 ≤ n → n < Q2 39 → w3.2.2.2 34 n = w.2.2.2 34 n) (hl : ∀ n, Q 32 ≤ n → n < Q2 32 → (if lst = true ∧ n ∈ L3 then 1 else A w3 30 n) = if lst = true ∧ n ∈ L then 1 else A w 30 n) (n1 : ∀ j, j ∈ hs → a ≤ j → j < b → j ∈ hs2) (n2 : ∀ j, j ∈ ps → Q 46 ≤ j → j < Q2 46 → j ∈ ps2) : FNx w0 fof cvr C P R J m w a b q r Q Q2 lst L hs2 ps2 := by
  obtain ⟨g1, g2, g3, ⟨g4, g5, g6, g7⟩, g8⟩ := h
  have lo32 : ∀ n, Q 32 ≤ n → Q3 32 ≤ n := fun n z => Nat.le_trans (h1 32 (by decide)) z
  have hi32 : ∀ n, n < Q2 32 → n < Q4 32 := fun n z => Nat.lt_of_lt_of_le z (h2 32 (by decide))
  refine ⟨fun j z1 z2 z3 => ?_, fun k u z1 z2 z3 z4 => ?_, g3, ⟨fun k n z1 z2 z3 z4 z5 z6 z7 z8 => ?_, fun n z1 z2 z3 z4 => ?_, fun n z1 z2 => ?_, fun n z1 z2 => ?_⟩, fun n z1 z2 => g8 n (lo32 n z1) (hi32 n z2)⟩
  · rw [g1 j (by omega) (by omega) (fun y => z3 (n1 j y z1 z2))]
    exact congrArg Int32.toInt (hc j z1 z2 z3)
  · rw [g2 k u z1 z2 (by omega) (by omega)]
    exact congrArg Int32.toInt (hp k u z1 z2 z3 z4)
  · have g0 : grp k ≠ 0 := fun z => by rw [z] at z5; revert z5; decide
    rw [g4 k n z1 z2 z3 z4 z5 (Nat.le_trans (h1 _ (grp_m g0)) z6) (Nat.lt_of_lt_of_le z7 (h2 _ (grp_m g0))) (fun e y => by
      subst e
      exact z8 rfl (n2 n y z6 z7))]
    exact congrArg Int32.toInt (hs1 k n g0 z2 z3 z6 z7 z8)
  · rw [g5 n (lo32 n z1) (hi32 n z2) z3 z4]
    exact congrArg Int32.toInt (hs1 27 n (by decide) (by decide) (by decide) z1 z2 (fun e => by cases e))
  · rw [g6 n (lo32 n z1) (hi32 n z2)]
    exact hl n z1 z2
  · rw [g7 n (Nat.le_trans (h1 39 (by decide)) z1) (Nat.lt_of_lt_of_le z2 (h2 39 (by decide)))]
    exact hj n z1 z2
end
end
section
set_option maxRecDepth 100000
section
variable {α β : Type} {m0 w0 m w m2 w2 m3 w3 v u : MS} {K nm Nk W W2 : Nat → Nat} {N T D d o a b c cm cm2 q r s lo hi f n x xa xb pi pj pn : Nat} {Q Q2 Q3 Q4 : Nat → Nat} {sc sc2 sc3 : SCT} {g lst : Bool} {L hs ps : List Nat} {fof cvr : Int → Int → Int} {C : Nat → Int} {P R : Nat → Nat → Int} {J : Nat → Int64} {H O : List Nat} {z : Unit} {rt : Int32}
theorem XTF_pt (hC : XCS m0 nm m a cm sc false) (hR : XRS w0 T w lo Q sc) (hq : Q 56 = q) (hlh : lo ≤ hi) (h : PTZ m0 w0 K T nm Nk f lo hi false a cm (Q 39) sc m w m2 z w2 rt) : ∃ (pn b pj cm2 : Nat) (sc2 : SCT), rt = I (pn : Nat) ∧ (Q 39 ≤ pn ∧ pn < pj ∧ w2.2.2.1 37 pn = -1) ∧ a < b ∧ XTF m0 w0 K T nm Nk false [] lo hi a b cm cm2 q q Q (qst Q 39 pj) sc sc2 m w m2 w2 ∧ (∀ k, k < 33 ∨ (38 < k ∧ k < 59) ∨ 64 < k → w2.2.2.1 k = w.2.2.1 k) ∧ (∀ k, k ≠ 39 → k ≠ 66 → k ≠ 69 → w2.1 k = w.1 k) ∧ ∀ C R J H, AGC C m2 a b → GRS R w0 → AGP R J w2 (Q 39) pj pn → HPX nm sc2 H → PTs C R J H f a pn (Onm nm sc) b (Onm nm sc2) := by
  obtain ⟨pn, b, pj, cm2, sc2, W, h1, h2, h3, h4, h5, ⟨h6, h7⟩, h8, h9, h10, h11, h12⟩ := h
  have pj5 : pj ≤ 5000 := h5.2.2.2.2.2.2
  refine ⟨pn, b, pj, cm2, sc2, h1, h2, h3, ⟨⟨hlh, by omega, ?_, Nat.le_refl _⟩, ⟨h4, ?_⟩, ⟨⟨by rw [qst_at]; exact h5, fun k hk => ?_⟩, by rw [qst_no (by decide)]; exact hq⟩, h7, ⟨W, HDx_of h8, h9⟩, XFC_P h10, ⟨QRR_P h11 (Nat.le_refl _), QLE_st QLE_rf (by omega), by rw [qst_no (by decide), qst_no (by decide), qst_no (by decide)]; exact ⟨rfl, rfl, rfl⟩⟩, fun y => (by cases y), fun n hn => (by cases hn)⟩, h11.2.1, h11.1, h12⟩
  · cases sc with
    | nil => exact h6.elim
    | cons e t =>
      cases sc2 with
      | nil => exact h6.elim
      | cons e2 t2 => exact h6.2.2
  · rw [h10.1 712 (by decide) (by decide)]; exact hC.2
  · by_cases y : k = 39
    · subst y
      rw [qst_at]
      exact ⟨h5.2.2.2.2.2.1, by omega⟩
    · rw [qst_no y, h11.1 k y (by rintro rfl; revert hk; decide) (by rintro rfl; revert hk; decide)]
      exact hR.2 k hk
theorem FNd_AGP (h : FNd w0 fof cvr C P R J m3 w3 a b q r Q Q2 lst L) (h2 : ∀ q, pi ≤ q → q < pj → Q 39 ≤ q ∧ q < Q2 39 ∧ (∀ k, 33 ≤ k → k ≤ 38 → k ≠ 37 → w3.2.2.1 k q = w2.2.2.1 k q) ∧ w3.2.2.2 34 q = w2.2.2.2 34 q ∧ (q ≠ pn → w3.2.2.1 37 q = w2.2.2.1 37 q)) : AGP R J w2 pi pj pn := fun q q1 q2 => by
  obtain ⟨a1, a2, a3, a4, a5⟩ := h2 q q1 q2
  obtain ⟨-, -, -, ⟨g4, -, -, g7⟩, -⟩ := h
  have e : ∀ k, 33 ≤ k → k ≤ 38 → k ≠ 34 → k ≠ 37 → R k q = A w2 k q := fun k k1 k2 k3 k4 => by
    have gk : grp k = 39 := by unfold grp; rw [if_neg (by omega), if_pos ⟨k1, k2⟩]
    rw [g4 k q (by omega) (by omega) (by omega) k3 (by rw [gk]; decide) (by rw [gk]; exact a1) (by rw [gk]; exact a2)]
    exact congrArg Int32.toInt (a3 k k1 k2 k4)
  refine ⟨e 33 (by decide) (by decide) (by decide) (by decide), e 35 (by decide) (by decide) (by decide) (by decide), e 36 (by decide) (by decide) (by decide) (by decide), e 38 (by decide) (by decide) (by decide) (by decide), (g7 q a1 a2).trans a4, fun y => ?_⟩
  rw [g4 37 q (by decide) (by decide) (by decide) (by decide) (by decide) a1 a2]
  exact congrArg Int32.toInt (a5 y)
end
end
section
set_option maxRecDepth 100000
section
variable {α β : Type} {m0 w0 m w m2 w2 m3 w3 v u w1 mS wS : MS} {K nm Nk W W2 : Nat → Nat} {N T D d o a a0 b b0 c cm cm0 cm2 cm3 q q0 r s lo lo0 mid hi i j f f2 n k kk p p2 σ tk x xa xb M m1 lv y kf : Nat} {Q Q0 Q2 Q3 Q4 : Nat → Nat} {sc sc0 sc2 sc3 t t2 : SCT} {e e2 : List Nat × List Nat × Nat} {g g2 lst l2 : Bool} {L L1 L2 S : List Nat} {idc fof cvr : Int → Int → Int} {z : Unit} {rt v1 v2 v3 v4 v5 t4 t5 xw : Int32} {fc : MS → Int32 → Option (MS × α)} {RR : MS → α → MS → β → Prop} {F : MS → Int32 → Option (MS × β)}
theorem XCS_712 (h : XCS m0 nm m a cm sc g) (hx : decide (xw = 0) = !g2) : XCS m0 nm (upI m 712 xw) a cm sc g2 := by
  obtain ⟨⟨h1, h3, h4, h5, h6, h7⟩, h8⟩ := h
  exact ⟨⟨⟨fun k hk => by rw [upI_ne (by omega)]; exact h1.1 k hk, h1.2⟩, ⟨by rw [upI_ne (by decide)]; exact h3.1, h3.2.1, by rw [upI_ne (by decide)]; exact h3.2.2.1, h3.2.2.2.1, CNl_fr h3.2.2.2.2 rfl (fun _ _ => rfl)⟩, ⟨by rw [upI_ne (by decide)]; exact h4.1, h4.2⟩, by rw [upI_ne (by decide)]; exact h5, h6, h7⟩, by rw [upI_at]; exact hx⟩
def GCD (w0 : MS) (nm : Nat → Nat) (fof cvr : Int → Int → Int) (a b cm2 q r : Nat) (Q Q2 : Nat → Nat) (sc sc2 : SCT) (m2 w2 : MS) : Prop := ∀ C P R J H lst, FNd w0 fof cvr C P R J m2 w2 a b q r Q Q2 lst [] → HNX nm sc2 cm2 H → (∀ u, q ≤ u → u < r → FUX C P R J u) ∧ ∀ kd k s, (∃ d, CHs C R (CRs C R J d) kd b k H (Onm nm sc2)) → CRe C R J (some (kd, k, s)) a (Q 32) H (Onm nm sc)
theorem gd_all (c : CTZ m0 w0 K T nm Nk) (IE : HXE N m0 w0 K T nm Nk fof cvr f) (hE : RWcK m0 1 26 (XPcK m0 f o 3) k x lo hi xa xb q r) (hxb : xb ≤ 8015) (hr4 : r ≤ 400) (hcl : NEC (K hi) ∧ K hi ≠ 26 ∧ hi ≤ T) (hC : XCS m0 nm m a cm sc false) (hR : XRS w0 T w lo Q sc) (hq : Q 56 = q) (htot : tot sc + (hi - lo) ≤ 4000 ∧ sc.length ≤ o + 1) (hn : n ≤ 8015) (h19 : A m0 19 n = ((x : Nat) : Int))
    (hh : ∀ m5 w5 b cm2 Q5 sc2, XTF m0 w0 K T nm Nk false [] lo hi a b cm cm2 q r Q Q5 sc sc2 m w m5 w5 → (hdS sc2).1 = (hdS sc).1 → a + 3 < b → (m5.2.2.1 23 a = 21 ∧ m5.2.2.1 23 (a + 1) = m.1 706 - v3 ∧ m5.2.2.1 23 (a + 2) = v4) → GCD w0 nm fof cvr (a + 3) b cm2 q r Q Q5 sc sc2 m5 w5 → PP RR (fc m5 (I ((a + 2 : Nat) : Int))) (F w5 (I (Q 32 : Nat)))) : PP RR (bnd (jb_Cm_tries_111 N (jrc_Cm_fun N D) (jg_Cm_tries N (jrc_Cm_fun N D) kf) m (I (n : Nat)) v3 v4) fc) (bnd (km_M_guardCode N (krc_M_behind N d) w) F) := by
  have tt4 := c.2.1.1.1
  have fr := XCS_fr hC
  have hb : BdE (XPcK m0 f o 3) := XP_bdK f o 3
  have hd := (RW_hdK hb hE).1
  unfold HDc at hd
  obtain ⟨e, t, rfl⟩ := PRS_ne hR.1
  have rn := hR.1.2.2.2.1
  have tl : t.length + 1 ≤ 27 := rn.2.1.2
  have h60 : w.2.2.1 60 t.length = I (e.1.length : Nat) := rn.2.2.1.1.1
  have h65 : w.1 65 = I (t.length : Nat) := rn.1
  have z712 : m.1 712 = 0 := of_decide_eq_true (by have := hC.2; exact this)
  unfold jb_Cm_tries_111
  rw [bnd_ck, i_nt2 (show n ≤ 100000 by omega), tre fr (by decide) h19]
  refine l_ck (fun _ => ?_)
  rw [decide_eq_false (fun z => by
    have := (I_eq (x := ((x : Nat) : Int)) (y := 0) (by omega) (by omega) (by decide) (by decide)).mp z
    omega), br_fq, bnd_lt, lt_e, bnd_as2]
  have k0 := XCS_712 (g2 := true) (xw := 1) hC rfl
  refine l_put k0.1.2.2.1.1 k0.1.2.2.1.2.2 (fun ha => ?_)
  have k1 := XCS_put (x := 21) k0 ha
  rw [bnd_as2]
  refine l_put k1.1.2.2.1.1 k1.1.2.2.1.2.2 (fun ha1 => ?_)
  have e706 : (ptc (upI m 712 1) a 21).1 706 = m.1 706 := by rw [ptc_i (by decide), upI_ne (by decide)]
  rw [e706]
  have k2 := XCS_put (x := m.1 706 - v3) k1 ha1
  unfold jm_Co_hook jb_Co_hook_0
  rw [bnd_as2, bnd_as2]
  refine l_put k2.1.2.2.1.1 k2.1.2.2.1.2.2 (fun ha2 => ?_)
  have k3 := XCS_put (x := v4) k2 ha2
  rw [bnd_s]
  have em : ptc (ptc (ptc (upI m 712 1) a 21) (a + 1) (m.1 706 - v3)) (a + 1 + 1) v4 = ptcs (upI m 712 1) a [21, m.1 706 - v3, v4] := rfl
  rw [em] at k3 ⊢
  have e441 : (ptcs (upI m 712 1) a [21, m.1 706 - v3, v4]).1 441 = I ((a + 2 + 1 : Nat) : Int) := k3.1.2.2.1.1
  rw [e441, I_sn, bnd_ck, tre (XCS_fr k3) (by decide) h19, z712]
  refine l_ck (fun _ => ?_)
  unfold km_M_guardCode kb_M_guardCode_0 kb_M_guardCode_37
  rw [h65, i_nt2 (p := t.length) (by omega), h60, bnd_ck]
  refine r_ck (fun _ => ?_)
  rw [bnd_lt]
  refine r_lt ?_
  rw [bnd_lt]
  refine r_lt ?_
  have hX := XRS_I (k := 73) (x := 1) hR (by decide) (by decide)
  obtain ⟨q1, q2⟩ := XRS_q hR
  rw [decide_eq_true hX.1.2.2.1, br_tq, q1]
  have k3' : XCS m0 nm (ptcs (upI m 712 1) a [21, m.1 706 - v3, v4]) (a + 3) cm (e :: t) true := k3
  refine gd_lp (lst := false) (o := o) (hi := hi) (lo0 := lo) c IE hxb hr4 hcl htot (fun M kf m2 w2 b cm2 Q2 sc2 hab ht => ?_) k x lo xa q N kf _ _ _ cm Q (e :: t) hE (XTR_rf k3' hX hq)
  obtain ⟨hF, hcd⟩ := XTF_of ht
  obtain ⟨a1, a2, a3, a4, ⟨W, a5, a6⟩, a7, a8, a9, a10⟩ := hF
  have same := a9 rfl
  have nx := (a5.2 rfl).2
  cases sc2 with
  | nil => exact nx.elim
  | cons e2 t2 =>
  obtain ⟨n1, n2, n3⟩ := nx
  have same : e2.1 = e.1 := same
  have t2l : t2.length = t.length := by have := NWX_len (a5.2 rfl).2; exact Nat.succ.inj this
  cases kf with
  | zero => exact pp_nl
  | succ kf =>
  cases M with
  | zero => exact pp_nr
  | succ M =>
  show PP RR (bnd (jb_Cm_tries_181 N (jrc_Cm_fun N D) (jg_Cm_tries N (jrc_Cm_fun N D) kf) m2 (I ((a + 2 : Nat) : Int)) 0 (I ((0 : Nat) : Int))) fc) (bnd (kb_M_guardCode_39 N (krc_M_behind N d) (kg_M_guardCode N (krc_M_behind N d) M) w2 (I (Q 32 : Nat)) (w.1 73) (I (e.1.length : Nat)) 0) F)
  unfold jb_Cm_tries_181 kb_M_guardCode_39
  rw [show decide (I ((0 : Nat) : Int) = (0 : Int32)) = true from rfl, br_tq, show decide ((0 : Int32) = 0) = true from rfl, br_tq, bnd_as2]
  refine l_put a2.1.2.2.1.1 a2.1.2.2.1.2.2 (fun ha3 => ?_)
  have c5 := XCS_712 (g2 := false) (xw := 0) (XCS_put (x := 23) a2 ha3) rfl
  rw [show isb 0 = true from rfl, ck_t, lt_e, bnd_s]
  have hR2 := a3.1
  obtain ⟨g1, g2⟩ := XRS_q hR2
  rw [hR2.1.2.1.1, bnd_as2]
  refine r_nod g1 g2 rfl (nsh (by omega)) (fun h16 => ?_)
  have hN : NOD w2 (nwD w2 (Q2 32) 23 (I (hi : Nat))) (Q2 32) := NOD_0 g1
  obtain ⟨d1, -⟩ := nwD_at (w := w2) (i := Q2 32) (k := 23) (t := I (hi : Nat))
  have d9 : (nwD w2 (Q2 32) 23 (I (hi : Nat))).1 69 = I (hi : Nat) := by rw [nwD_i (by decide)]; exact hR2.1.2.1.1
  generalize nwD w2 (Q2 32) 23 (I (hi : Nat)) = U at hN d1 d9
  rw [bnd_ck]
  refine r_ck (fun _ => ?_)
  rw [bnd_lt]
  refine r_lt ?_
  have u65 : (upI U 73 (w.1 73)).1 65 = I (t.length : Nat) := by
    rw [upI_ne (by decide), hN.1 65 (by decide)]
    have := hR2.1.2.2.2.1.1
    rw [← t2l]; exact this
  rw [u65, i_nt2 (p := t.length) (by omega), bnd_ck]
  refine r_ck (fun _ => ?_)
  rw [bnd_lt]
  refine r_lt ?_
  rw [bnd_s]
  have u60 : upd ((upI U 73 (w.1 73)).2.2.1 60) t.length (I (e.1.length : Nat)) = U.2.2.1 60 := funext (fun j => by
    show (if j = t.length then I (e.1.length : Nat) else U.2.2.1 60 j) = U.2.2.1 60 j
    by_cases z : j = t.length
    · rw [if_pos z, z, hN.2.2.1 60 _ (by omega), ← same, ← t2l]
      exact hR2.1.2.2.2.1.2.2.1.1.1.symm
    · rw [if_neg z])
  have y1 : ∀ k, (upA (upI U 73 (w.1 73)) 60 (upd ((upI U 73 (w.1 73)).2.2.1 60) t.length (I (e.1.length : Nat)))).2.2.1 k = U.2.2.1 k := fun k => by
    by_cases z : k = 60
    · rw [z, upA_at, u60]
    · rw [upA_no z]; rfl
  have y2 : ∀ k, k ≠ 73 → (upA (upI U 73 (w.1 73)) 60 (upd ((upI U 73 (w.1 73)).2.2.1 60) t.length (I (e.1.length : Nat)))).1 k = U.1 k := fun k hk => upI_ne hk
  have y3 : (upA (upI U 73 (w.1 73)) 60 (upd ((upI U 73 (w.1 73)).2.2.1 60) t.length (I (e.1.length : Nat)))).2.2.2 = U.2.2.2 := rfl
  generalize upA (upI U 73 (w.1 73)) 60 (upd ((upI U 73 (w.1 73)).2.2.1 60) t.length (I (e.1.length : Nat))) = Y at y1 y2 y3
  have hY : XRS w0 T Y hi (qst Q2 32 (Q2 32 + 1)) (e2 :: t2) := XRS_n hR2 (fun k hk => (y2 k (by rintro rfl; revert hk; decide)).trans (hN.1 k hk)) (fun k hk => (y1 k).trans (funext (fun j => hN.2.2.1 k j (by omega)))) ((y2 69 (by decide)).trans d9) hcl.2.2 ((y2 32 (by decide)).trans hN.2.1) (by omega)
  have hNY : QRR Q2 w2 Y := QRR_e (QRR_N hN (Nat.le_refl _)) (funext y1) y3
  have a23 : A Y 23 (Q2 32) = 23 := by
    show (Y.2.2.1 23 (Q2 32)).toInt = _
    rw [y1, d1]; rfl
  have mo : ∀ j, j ≠ b → (upI (ptc m2 b 23) 712 0).2.2.1 23 j = m2.2.2.1 23 j := fun j hj => ptc_o hj
  have mb : (upI (ptc m2 b 23) 712 0).2.2.1 23 b = 23 := ptcs_at (l := [23]) (k := 0) rfl
  have mr : ∀ k, k ≠ 23 → (upI (ptc m2 b 23) 712 0).2.2.1 k = m2.2.2.1 k := fun k hk => ptc_r hk
  have mi : ∀ k, k ≠ 441 → k ≠ 712 → (upI (ptc m2 b 23) 712 0).1 k = m2.1 k := fun k h1 h2 => by rw [upI_ne h2, ptc_i h1]
  have mz : (upI (ptc m2 b 23) 712 0).1 712 = 0 := upI_at
  generalize upI (ptc m2 b 23) 712 0 = Z at c5 mo mb mr mi mz
  have wd : ∀ k z, [21, m.1 706 - v3, v4][k]? = some z → k < 3 → Z.2.2.1 23 (a + k) = z := fun k z hz hk => by
    rw [mo (a + k) (by omega), a7.2.2.1 (a + k) (by omega)]
    exact ptcs_at hz
  refine hh Z Y (b + 1) cm2 (qst Q2 32 (Q2 32 + 1)) (e2 :: t2) ⟨⟨a1.1, by omega, a1.2.2⟩, c5, ⟨hY, by rw [qst_no (by decide)]; exact a3.2⟩, a4, ⟨W, a5, ?_⟩, ⟨fun k k1 k2 => ?_, fun k k1 k2 k3 => ?_, fun j hj => ?_, fun k j k1 k2 k3 => ?_, fun j hj => ?_, fun j hj => ?_⟩, ⟨QRR_tr (w := w) (v := w2) a8.1 hNY a8.2.1, QLE_st a8.2.1 (by have := a8.2.1 32 (by decide); omega), by rw [qst_no (by decide), qst_no (by decide), qst_no (by decide)]; exact a8.2.2⟩, fun y => (by cases y), fun n hn => (by cases hn)⟩ same (by omega) ⟨wd 0 _ rfl (by decide), wd 1 _ rfl (by decide), wd 2 _ rfl (by decide)⟩ (fun C P R J H lst fi hx => ?_)
  · rw [mr 42 (by decide), a6, ptcs_r (by decide)]; rfl
  · by_cases z : k = 712
    · rw [z, mz, z712]
    · rw [mi k k1 z, a7.1 k k1 k2, ptcs_i k1, upI_ne z]
  · rw [mr k k1, a7.2.1 k k1 k2 k3, ptcs_r k1]; rfl
  · rw [mo j (by omega), a7.2.2.1 j (by omega), ptcs_o (Or.inl hj)]; rfl
  · rw [mr k (by omega), a7.2.2.2.1 k j k1 k2 k3, ptcs_r (by omega)]; rfl
  · rw [mr 40 (by decide), a7.2.2.2.2.1 j hj, ptcs_r (by decide)]; rfl
  · rw [mr 41 (by decide), a7.2.2.2.2.2 j hj, ptcs_r (by decide)]; rfl
  · have fi2 : FNd w0 fof cvr C P R J m2 w2 (a + 3) b q r Q Q2 false [] := by
      refine FIN_sub fi ⟨Nat.le_refl _, by omega⟩ ⟨Nat.le_refl _, Nat.le_refl _⟩ QLE_rf (QLE_st QLE_rf (by omega)) (fun j z1 z2 => mo j (by omega)) (fun k u z1 z2 _ _ => by rw [mr k (by omega)]) (SAM_q hNY) (fun n z1 z2 => ?_)
      have e30 : A Y 30 n = A w2 30 n := congrArg Int32.toInt (hNY.2.1 30 n (by decide) z2)
      rw [if_neg (fun z => by cases z.2), if_neg (fun z => by cases z.1), e30]
    obtain ⟨f1, f3⟩ := hcd C P R J H fi2 hx
    refine ⟨f1, fun kd k s hch => f3 (some (kd, k, s)) ⟨fun z => (by cases z), fun z => (by cases z)⟩ ?_⟩
    have gc := fi.1
    have q32 : Q 32 ≤ Q2 32 := a8.2.1 32 (by decide)
    have R23 : R 23 (Q2 32) = 23 := (FIN_R fi (by decide) (by decide) ⟨q32, by rw [qst_at]; omega⟩).trans a23
    have cb : C b = 23 := by
      rw [gc b (by omega) (by omega)]
      show (Z.2.2.1 23 b).toInt = _
      rw [mb]; rfl
    obtain ⟨b1, b2⟩ := XB c.2.2.1 a2 hR2 hx h16
    obtain ⟨d, hd⟩ := hch
    exact cr_1 b1 b2 ⟨d, Or.inr (Or.inr (Or.inr (Or.inr (Or.inr (Or.inr (Or.inr (Or.inr (Or.inr (Or.inr (Or.inr (Or.inr (Or.inr (Or.inr (Or.inr (Or.inr (Or.inr (Or.inr (Or.inr (Or.inr (Or.inr (Or.inr (Or.inr (Or.inr (Or.inl ⟨R23, cb, kd, k, s, rfl, hd⟩))))))))))))))))))))))))⟩
end
end
section
set_option maxRecDepth 100000
section
variable {α β : Type} {m0 w0 m w m2 w2 m3 w3 v u w1 mS wS : MS} {K nm Nk W W2 : Nat → Nat} {N T D d o a a0 b b0 c cm cm0 cm2 cm3 q q0 r s lo lo0 mid hi i j f f2 n k kk p p2 σ tk x xa xb M m1 lv y kf : Nat} {Q Q0 Q2 Q3 Q4 : Nat → Nat} {sc sc0 sc2 sc3 t t2 : SCT} {e e2 : List Nat × List Nat × Nat} {g g2 lst l2 : Bool} {L L1 L2 S : List Nat} {l : List Int32} {idc fof cvr : Int → Int → Int} {z : Unit} {rt v1 v2 v3 v4 v5 t4 t5 xw : Int32} {fc : MS → Int32 → Option (MS × α)} {RR : MS → α → MS → β → Prop} {F : MS → Int32 → Option (MS × β)}
theorem XTF_ps (hC : XCS m0 nm (ptcs m a l) (a + l.length) cm sc g) (hR : XRS w0 T w lo Q sc) (hq : Q 56 = q) : XTF m0 w0 K T nm Nk g [] lo lo a (a + l.length) cm cm q q Q Q sc sc m w (ptcs m a l) w := ⟨⟨Nat.le_refl _, by omega, Nat.le_refl _, Nat.le_refl _⟩, hC, ⟨hR, hq⟩, by omega, ⟨fun _ => 0, HDx_gap (fun j a b => by omega), by rw [wup_0 (fun j a b => by omega)]; exact ptcs_r (by decide)⟩, XFC_ps XFC_rf (Nat.le_refl _), XFR_rf, fun _ => rfl, fun n hn => (by cases hn)⟩
theorem hd_x (c : CTZ m0 w0 K T nm Nk) (cv : CTV m0 w0 K T) (hE : PAcK m0 f p lo hi xa xb q q) (hxb : xb ≤ 8015) (hC : XCS m0 nm m a cm sc false) (hR : XRS w0 T w lo Q sc) (hq : Q 56 = q) (htot : tot sc + (hi - lo) ≤ 4000) (hn : n ≤ 8015) (h18 : A m0 18 n = ((p : Nat) : Int)) (h21 : A m0 21 p = 0) (hv1 : decide (v1 < 0) = true)
    (hh : ∀ m5 w5 b cm2 pj pn sc2 kf, XTF m0 w0 K T nm Nk false [] lo hi a (b + 1) cm cm2 q q Q (qst Q 39 pj) sc sc2 m w m5 w5 → a + 3 < b → (Q 39 ≤ pn ∧ pn < pj ∧ w5.2.2.1 37 pn = -1) → (m5.2.2.1 23 a = 19 ∧ m5.2.2.1 23 (a + 1) = v1 ∧ m5.2.2.1 23 (a + 2) = 0 ∧ m5.2.2.1 23 b = 8) → (∀ k, k < 33 ∨ (38 < k ∧ k < 59) ∨ 64 < k → w5.2.2.1 k = w.2.2.1 k) → (∀ k, k ≠ 39 → k ≠ 66 → k ≠ 69 → w5.1 k = w.1 k) → (∀ C R J H, AGC C m5 (a + 3) b → GRS R w0 → AGP R J w5 (Q 39) pj pn → HPX nm sc2 H → PTs C R J H f (a + 3) pn (Onm nm sc) b (Onm nm sc2)) → PP RR (bnd (jb_Cm_tries_111 N (jrc_Cm_fun N D) (jg_Cm_tries N (jrc_Cm_fun N D) kf) m5 (I (n : Nat)) (m.1 706) (I ((a + 2 : Nat) : Int))) fc) (F w5 (I (pn : Nat)))) : PP RR (bnd (jm_Cm_tries N (jrc_Cm_fun N D) m v1 (I (n : Nat))) fc) (bnd (kr_M_patternAt N w 0) F) := by
  have tt4 := c.2.1.1.1
  have fr := XCS_fr hC
  have hd := PA_bdK _ _ _ _ _ _ _ _ hE
  unfold HDc at hd
  have hp0 : p ≤ 8015 := by omega
  have n713 : ∀ {m : MS} {a cm : Nat} {sc : SCT}, XCS m0 nm m a cm sc false → upI m 713 0 = m := fun h => upI_id (of_decide_eq_true (by have := h.1.2.2.2.1; exact this))
  unfold jm_Cm_tries jb_Cm_tries_0
  rw [bnd_ck, i_nt2 (show n ≤ 100000 by omega), tre fr (by decide) h18]
  refine l_ck (fun _ => ?_)
  rw [decide_eq_false (fun z => by
    have := (I_eq (x := ((p : Nat) : Int)) (y := 0) (by omega) (by omega) (by decide) (by decide)).mp z
    omega), br_fq, bnd_as2]
  refine l_put hC.1.2.2.1.1 hC.1.2.2.1.2.2 (fun ha => ?_)
  have k1 := XCS_put (x := 19) hC ha
  rw [bnd_as2]
  refine l_put k1.1.2.2.1.1 k1.1.2.2.1.2.2 (fun ha1 => ?_)
  have k2 := XCS_put (x := v1) k1 ha1
  unfold jm_Co_hook jb_Co_hook_0
  rw [bnd_as2, bnd_as2]
  refine l_put k2.1.2.2.1.1 k2.1.2.2.1.2.2 (fun ha2 => ?_)
  have k3 := XCS_put (x := 0) k2 ha2
  rw [bnd_s]
  have em : ptc (ptc (ptc m a 19) (a + 1) v1) (a + 1 + 1) 0 = ptcs m a [19, v1, 0] := rfl
  rw [em] at k3 ⊢
  have e441 : (ptcs m a [19, v1, 0]).1 441 = I ((a + 2 + 1 : Nat) : Int) := k3.1.2.2.1.1
  rw [e441, I_sn, hv1, br_tq]
  unfold jb_Cm_tries_57
  have k3' : XCS m0 nm (ptcs m a [19, v1, 0]) (a + 3) cm sc false := k3
  rw [show isb 0 = true from rfl, ck_t, lt_e, n713 k3', bnd_ck, i_nt2 (show n ≤ 100000 by omega), tre (XCS_fr k3') (by decide) h18]
  refine l_ck (fun _ => ?_)
  cases N with
  | zero => exact pp_nl
  | succ N =>
  show PP RR (bnd (jb_Cm_tries_71 (N + 1) (jrc_Cm_fun (N + 1) D) (jg_Cm_tries (N + 1) (jrc_Cm_fun (N + 1) D) N) (ptcs m a [19, v1, 0]) (I (n : Nat)) (m.1 706) (I ((a + 2 : Nat) : Int)) (I (p : Nat))) fc) _
  unfold jb_Cm_tries_71
  rw [decide_eq_false (fun z => by
    have := (I_eq (x := ((p : Nat) : Int)) (y := 0) (by omega) (by omega) (by decide) (by decide)).mp z
    omega), br_fq, bnd_as2]
  unfold jr_Cm_pattern kr_M_patternAt
  refine pp_bb (pp_mo (pt_all c cv f _ _ p lo hi xa xb q q (ptcs m a [19, v1, 0]) w (a + 3) cm (Q 39) sc false 0 hE hxb k3'.1 hR.1 htot rfl) (fun m2 z w2 rt hz => ?_))
  obtain ⟨pn, b, pj, cm2, sc2, rfl, h2, h3, h4, h5, h6, h7⟩ := XTF_pt k3' hR hq (by omega) hz
  have hC2 := h4.2.1
  rw [bnd_ck, i_nt2 (show p ≤ 100000 by omega), tre (XCS_fr hC2) (by decide) h21]
  refine l_ck (fun _ => ?_)
  cases N with
  | zero => exact pp_nl
  | succ N =>
  show PP RR (bnd (jb_Cm_tries_71 (N + 1 + 1) (jrc_Cm_fun (N + 1 + 1) D) (jg_Cm_tries (N + 1 + 1) (jrc_Cm_fun (N + 1 + 1) D) N) m2 (I (n : Nat)) (m.1 706) (I ((a + 2 : Nat) : Int)) (I 0)) fc) _
  unfold jb_Cm_tries_71
  rw [show decide (I 0 = (0 : Int32)) = true from rfl, br_tq, lt_e, n713 hC2, bnd_as2]
  refine l_put hC2.1.2.2.1.1 hC2.1.2.2.1.2.2 (fun ha3 => ?_)
  have k5 := XCS_put (x := 8) hC2 ha3
  have e8 : ptc m2 b 8 = ptcs m2 b [8] := rfl
  have X1 := XTF_ps (K := K) (Nk := Nk) (l := [19, v1, 0]) k3' hR hq
  have X3 := XTF_ps (K := K) (Nk := Nk) (l := [8]) k5 h4.2.2.1.1 h4.2.2.1.2
  have X := XTF_tr (XTF_tr X1 h4) X3
  have wd : ∀ k z, [19, v1, 0][k]? = some z → k < 3 → (ptc m2 b 8).2.2.1 23 (a + k) = z := fun k z hz hk => by
    rw [ptc_o (by omega), h4.2.2.2.2.2.1.2.2.1 (a + k) (by omega)]
    exact ptcs_at hz
  refine hh (ptc m2 b 8) w2 b cm2 pj pn sc2 _ X h3 h2 ⟨wd 0 _ rfl (by decide), wd 1 _ rfl (by decide), wd 2 _ rfl (by decide), ptcs_at (l := [8]) (k := 0) rfl⟩ h5 h6 (fun C R J H g1 g2 g3 g4 => h7 C R J H (fun k k1 k2 => ?_) g2 g3 g4)
  rw [g1 k k1 k2]
  show ((ptc m2 b 8).2.2.1 23 k).toInt = _
  rw [ptc_o (by omega)]; rfl
end
end
section
set_option maxRecDepth 100000
section
variable {α β : Type} {m0 w0 m w m2 w2 m3 w3 v u : MS} {K nm Nk W W2 : Nat → Nat} {N T D d o a b c p q k f i j pn rn nd : Nat} {Q Q2 Q3 Q4 : Nat → Nat} {sc sc2 sc3 t : SCT} {e : List Nat × List Nat × Nat} {C : Nat → Int} {R : Nat → Nat → Int} {J : Nat → Int64} {H O O2 : List Nat} {v1 v2 v3 v4 : Int32} {RR : MS → α → MS → β → Prop} {A' : Option (MS × α)} {RP : MS → α → MS → Int32 → Prop}
theorem ptr_1 (h : PTs C R J H f i pn O j O2) (hf : f ≤ 230) : PTr C R J H 230 1 i ((pn : Nat) : Int) O j O2 := by
  refine ⟨fun k => if k = 0 then i else j, fun _ => pn, fun k => if k = 0 then O else O2, rfl, rfl, rfl, rfl, rfl, fun k hk => ?_⟩
  have : k = 0 := by omega
  subst this
  exact ⟨PT_mo hf h, fun z => by omega⟩
theorem rt_add {F : MS → Unit → Option (MS × β)} (hrn : rn ≤ 24000) (hnd : nd ≤ 24000) (h : ∀ V, V.1 = w.1 → V.2.2.2 = w.2.2.2 → (∀ k n, (k ≠ 28 ∨ n ≠ nd) → (k ≠ 29 ∨ n ≠ rn) → V.2.2.1 k n = w.2.2.1 k n) → V.2.2.1 28 nd = I (rn : Nat) → V.2.2.1 29 rn = w.2.2.1 28 nd → PP RR A' (F V ())) : PP RR A' (bnd (fm_M_addRoot N w (I (nd : Nat)) (I (rn : Nat))) F) := by
  unfold fm_M_addRoot fb_M_addRoot_0 fb_M_addRoot_24
  rw [decide_eq_false (fun z => by
    have := (I_eq (x := ((rn : Nat) : Int)) (y := -1) (by omega) (by omega) (by decide) (by decide)).mp (z.trans rfl)
    omega), br_fq, i_nt2 (p := nd) (by omega), i_nt2 (p := rn) (by omega), bnd_ck]
  refine r_ck (fun _ => ?_)
  rw [bnd_ck]
  refine r_ck (fun _ => ?_)
  rw [bnd_lt]
  refine r_lt ?_
  rw [bnd_ck]
  refine r_ck (fun _ => ?_)
  rw [bnd_lt]
  refine r_lt ?_
  rw [bnd_s]
  refine h _ rfl rfl (fun k n h1 h2 => ?_) ?_ ?_
  · by_cases z : k = 28
    · subst z
      rw [upA_at, upd_no (h1.resolve_left (fun z => z rfl)), upA_no (by decide)]
    · rw [upA_no z]
      by_cases y : k = 29
      · subst y
        rw [upA_at, upd_no (h2.resolve_left (fun z => z rfl))]
      · rw [upA_no y]
  · rw [upA_at, upd_at]
  · rw [upA_no (by decide), upA_at, upd_at]
theorem pt_beg {S : SG_M_behind} {G : MS → Int32 → Int32 → Int32 → Int32 → Int32 → Option (MS × Int32)} {B : Option (MS × α)} (hR : XRS w0 T w p Q (e :: t)) (h : ∀ V, Q 46 < 16000 → XRS w0 T V p (qst Q 46 (Q 46 + 1)) (e :: t) → QRR Q w V → V.2.2.2 = w.2.2.2 → (∀ k n, (k ≠ 41 ∧ k ≠ 44 ∧ k ≠ 45) ∨ n ≠ Q 46 → V.2.2.1 k n = w.2.2.1 k n) → V.2.2.1 44 (Q 46) = I (p : Nat) → V.2.2.1 45 (Q 46) = -1 → V.2.2.1 41 (Q 46) = (if v1 = 0 then 1 else 0) → (∀ k, k ≠ 46 → V.1 k = w.1 k) → PP RP B (br (decide (v1 = 0)) (bnd (kr_M_patternAt N V 0) (fun u17 r17 => kb_M_parts0_105 N S G u17 v1 v2 v3 v4 (I (Q 46 : Nat)) (I (e.1.length : Nat)) 40 (I (Q 46 : Nat)) r17)) (kb_M_parts0_105 N S G V v1 v2 v3 v4 (I (Q 46 : Nat)) (I (e.1.length : Nat)) 40 (I (Q 46 : Nat)) (-1)))) : PP RP B (kb_M_parts0_19 N S G w v1 v2 v3 v4 1) := by
  have q46 := hR.2 46 (by decide)
  have rn := hR.1.2.2.2.1
  have tl : t.length + 1 ≤ 27 := rn.2.1.2
  have h60 : w.2.2.1 60 t.length = I (e.1.length : Nat) := rn.2.2.1.1.1
  have h65 : w.1 65 = I (t.length : Nat) := rn.1
  have h69 : w.1 69 = I (p : Nat) := hR.1.2.1.1
  unfold kb_M_parts0_19
  rw [show decide ((1 : Int32) = 0) = false from rfl, br_fq, q46.1, i_suc, i_nt2 (p := Q 46) (by omega)]
  refine r_lt (r_ck (fun z => r_lt (r_ck (fun _ => r_lt ?_))))
  have hk : Q 46 < 16000 := by
    have := (I_inb (n := ln 44) (x := ((Q 46 : Nat) : Int)) (by omega) (by omega)).mp z
    have l44 : ln 44 ≤ 16000 := by decide
    omega
  have go : ∀ x : Int32, x = (if v1 = 0 then 1 else 0) → PP RP B (kb_M_parts0_74 N S G (upA (upA (upI w 46 (I ((Q 46 + 1 : Nat) : Int))) 44 (upd ((upI w 46 (I ((Q 46 + 1 : Nat) : Int))).2.2.1 44) (Q 46) ((upI w 46 (I ((Q 46 + 1 : Nat) : Int))).1 69))) 45 (upd ((upA (upI w 46 (I ((Q 46 + 1 : Nat) : Int))) 44 (upd ((upI w 46 (I ((Q 46 + 1 : Nat) : Int))).2.2.1 44) (Q 46) ((upI w 46 (I ((Q 46 + 1 : Nat) : Int))).1 69))).2.2.1 45) (Q 46) (-1))) v1 v2 v3 v4 (I (Q 46 : Nat)) 41 (I (Q 46 : Nat)) x) := fun x hx => by
    unfold kb_M_parts0_74
    rw [i_nt2 (p := Q 46) (by omega)]
    refine r_ck (fun _ => r_ck (fun _ => r_lt ?_))
    have i69 : (upI w 46 (I ((Q 46 + 1 : Nat) : Int))).1 69 = I (p : Nat) := by rw [upI_ne (by decide)]; exact h69
    rw [i69]
    have y1 : ∀ k n, (k ≠ 41 ∧ k ≠ 44 ∧ k ≠ 45) ∨ n ≠ Q 46 → (upA (upA (upA (upI w 46 (I ((Q 46 + 1 : Nat) : Int))) 44 (upd ((upI w 46 (I ((Q 46 + 1 : Nat) : Int))).2.2.1 44) (Q 46) (I (p : Nat)))) 45 (upd ((upA (upI w 46 (I ((Q 46 + 1 : Nat) : Int))) 44 (upd ((upI w 46 (I ((Q 46 + 1 : Nat) : Int))).2.2.1 44) (Q 46) (I (p : Nat)))).2.2.1 45) (Q 46) (-1))) 41 (upd ((upA (upA (upI w 46 (I ((Q 46 + 1 : Nat) : Int))) 44 (upd ((upI w 46 (I ((Q 46 + 1 : Nat) : Int))).2.2.1 44) (Q 46) (I (p : Nat)))) 45 (upd ((upA (upI w 46 (I ((Q 46 + 1 : Nat) : Int))) 44 (upd ((upI w 46 (I ((Q 46 + 1 : Nat) : Int))).2.2.1 44) (Q 46) (I (p : Nat)))).2.2.1 45) (Q 46) (-1))).2.2.1 41) (Q 46) x)).2.2.1 k n = w.2.2.1 k n := fun k n hk => by
      by_cases z1 : k = 41
      · subst z1
        rw [upA_at, upd_no (by omega), upA_no (by decide), upA_no (by decide)]; rfl
      · rw [upA_no z1]
        by_cases z2 : k = 45
        · subst z2
          rw [upA_at, upd_no (by omega), upA_no (by decide)]; rfl
        · rw [upA_no z2]
          by_cases z3 : k = 44
          · subst z3
            rw [upA_at, upd_no (by omega)]; rfl
          · rw [upA_no z3]; rfl
    have hQ : QRR Q w (upA (upA (upA (upI w 46 (I ((Q 46 + 1 : Nat) : Int))) 44 (upd ((upI w 46 (I ((Q 46 + 1 : Nat) : Int))).2.2.1 44) (Q 46) (I (p : Nat)))) 45 (upd ((upA (upI w 46 (I ((Q 46 + 1 : Nat) : Int))) 44 (upd ((upI w 46 (I ((Q 46 + 1 : Nat) : Int))).2.2.1 44) (Q 46) (I (p : Nat)))).2.2.1 45) (Q 46) (-1))) 41 (upd ((upA (upA (upI w 46 (I ((Q 46 + 1 : Nat) : Int))) 44 (upd ((upI w 46 (I ((Q 46 + 1 : Nat) : Int))).2.2.1 44) (Q 46) (I (p : Nat)))) 45 (upd ((upA (upI w 46 (I ((Q 46 + 1 : Nat) : Int))) 44 (upd ((upI w 46 (I ((Q 46 + 1 : Nat) : Int))).2.2.1 44) (Q 46) (I (p : Nat)))).2.2.1 45) (Q 46) (-1))).2.2.1 41) (Q 46) x)) := QRR_A (QRR_A (QRR_A (QRR_I QRR_rf) (by decide) (Nat.le_refl _)) (by decide) (Nat.le_refl _)) (by decide) (Nat.le_refl _)
    have y44 : (upA (upA (upA (upI w 46 (I ((Q 46 + 1 : Nat) : Int))) 44 (upd ((upI w 46 (I ((Q 46 + 1 : Nat) : Int))).2.2.1 44) (Q 46) (I (p : Nat)))) 45 (upd ((upA (upI w 46 (I ((Q 46 + 1 : Nat) : Int))) 44 (upd ((upI w 46 (I ((Q 46 + 1 : Nat) : Int))).2.2.1 44) (Q 46) (I (p : Nat)))).2.2.1 45) (Q 46) (-1))) 41 (upd ((upA (upA (upI w 46 (I ((Q 46 + 1 : Nat) : Int))) 44 (upd ((upI w 46 (I ((Q 46 + 1 : Nat) : Int))).2.2.1 44) (Q 46) (I (p : Nat)))) 45 (upd ((upA (upI w 46 (I ((Q 46 + 1 : Nat) : Int))) 44 (upd ((upI w 46 (I ((Q 46 + 1 : Nat) : Int))).2.2.1 44) (Q 46) (I (p : Nat)))).2.2.1 45) (Q 46) (-1))).2.2.1 41) (Q 46) x)).2.2.1 44 (Q 46) = I (p : Nat) := by rw [upA_no (by decide), upA_no (by decide), upA_at, upd_at]
    have y45 : (upA (upA (upA (upI w 46 (I ((Q 46 + 1 : Nat) : Int))) 44 (upd ((upI w 46 (I ((Q 46 + 1 : Nat) : Int))).2.2.1 44) (Q 46) (I (p : Nat)))) 45 (upd ((upA (upI w 46 (I ((Q 46 + 1 : Nat) : Int))) 44 (upd ((upI w 46 (I ((Q 46 + 1 : Nat) : Int))).2.2.1 44) (Q 46) (I (p : Nat)))).2.2.1 45) (Q 46) (-1))) 41 (upd ((upA (upA (upI w 46 (I ((Q 46 + 1 : Nat) : Int))) 44 (upd ((upI w 46 (I ((Q 46 + 1 : Nat) : Int))).2.2.1 44) (Q 46) (I (p : Nat)))) 45 (upd ((upA (upI w 46 (I ((Q 46 + 1 : Nat) : Int))) 44 (upd ((upI w 46 (I ((Q 46 + 1 : Nat) : Int))).2.2.1 44) (Q 46) (I (p : Nat)))).2.2.1 45) (Q 46) (-1))).2.2.1 41) (Q 46) x)).2.2.1 45 (Q 46) = -1 := by rw [upA_no (by decide), upA_at, upd_at]
    have y41 : (upA (upA (upA (upI w 46 (I ((Q 46 + 1 : Nat) : Int))) 44 (upd ((upI w 46 (I ((Q 46 + 1 : Nat) : Int))).2.2.1 44) (Q 46) (I (p : Nat)))) 45 (upd ((upA (upI w 46 (I ((Q 46 + 1 : Nat) : Int))) 44 (upd ((upI w 46 (I ((Q 46 + 1 : Nat) : Int))).2.2.1 44) (Q 46) (I (p : Nat)))).2.2.1 45) (Q 46) (-1))) 41 (upd ((upA (upA (upI w 46 (I ((Q 46 + 1 : Nat) : Int))) 44 (upd ((upI w 46 (I ((Q 46 + 1 : Nat) : Int))).2.2.1 44) (Q 46) (I (p : Nat)))) 45 (upd ((upA (upI w 46 (I ((Q 46 + 1 : Nat) : Int))) 44 (upd ((upI w 46 (I ((Q 46 + 1 : Nat) : Int))).2.2.1 44) (Q 46) (I (p : Nat)))).2.2.1 45) (Q 46) (-1))).2.2.1 41) (Q 46) x)).2.2.1 41 (Q 46) = x := by rw [upA_at, upd_at]
    have yi : (upA (upA (upA (upI w 46 (I ((Q 46 + 1 : Nat) : Int))) 44 (upd ((upI w 46 (I ((Q 46 + 1 : Nat) : Int))).2.2.1 44) (Q 46) (I (p : Nat)))) 45 (upd ((upA (upI w 46 (I ((Q 46 + 1 : Nat) : Int))) 44 (upd ((upI w 46 (I ((Q 46 + 1 : Nat) : Int))).2.2.1 44) (Q 46) (I (p : Nat)))).2.2.1 45) (Q 46) (-1))) 41 (upd ((upA (upA (upI w 46 (I ((Q 46 + 1 : Nat) : Int))) 44 (upd ((upI w 46 (I ((Q 46 + 1 : Nat) : Int))).2.2.1 44) (Q 46) (I (p : Nat)))) 45 (upd ((upA (upI w 46 (I ((Q 46 + 1 : Nat) : Int))) 44 (upd ((upI w 46 (I ((Q 46 + 1 : Nat) : Int))).2.2.1 44) (Q 46) (I (p : Nat)))).2.2.1 45) (Q 46) (-1))).2.2.1 41) (Q 46) x)).1 = (upI w 46 (I ((Q 46 + 1 : Nat) : Int))).1 := rfl
    have yj : (upA (upA (upA (upI w 46 (I ((Q 46 + 1 : Nat) : Int))) 44 (upd ((upI w 46 (I ((Q 46 + 1 : Nat) : Int))).2.2.1 44) (Q 46) (I (p : Nat)))) 45 (upd ((upA (upI w 46 (I ((Q 46 + 1 : Nat) : Int))) 44 (upd ((upI w 46 (I ((Q 46 + 1 : Nat) : Int))).2.2.1 44) (Q 46) (I (p : Nat)))).2.2.1 45) (Q 46) (-1))) 41 (upd ((upA (upA (upI w 46 (I ((Q 46 + 1 : Nat) : Int))) 44 (upd ((upI w 46 (I ((Q 46 + 1 : Nat) : Int))).2.2.1 44) (Q 46) (I (p : Nat)))) 45 (upd ((upA (upI w 46 (I ((Q 46 + 1 : Nat) : Int))) 44 (upd ((upI w 46 (I ((Q 46 + 1 : Nat) : Int))).2.2.1 44) (Q 46) (I (p : Nat)))).2.2.1 45) (Q 46) (-1))).2.2.1 41) (Q 46) x)).2.2.2 = w.2.2.2 := rfl
    generalize upA (upA (upA (upI w 46 (I ((Q 46 + 1 : Nat) : Int))) 44 (upd ((upI w 46 (I ((Q 46 + 1 : Nat) : Int))).2.2.1 44) (Q 46) (I (p : Nat)))) 45 (upd ((upA (upI w 46 (I ((Q 46 + 1 : Nat) : Int))) 44 (upd ((upI w 46 (I ((Q 46 + 1 : Nat) : Int))).2.2.1 44) (Q 46) (I (p : Nat)))).2.2.1 45) (Q 46) (-1))) 41 (upd ((upA (upA (upI w 46 (I ((Q 46 + 1 : Nat) : Int))) 44 (upd ((upI w 46 (I ((Q 46 + 1 : Nat) : Int))).2.2.1 44) (Q 46) (I (p : Nat)))) 45 (upd ((upA (upI w 46 (I ((Q 46 + 1 : Nat) : Int))) 44 (upd ((upI w 46 (I ((Q 46 + 1 : Nat) : Int))).2.2.1 44) (Q 46) (I (p : Nat)))).2.2.1 45) (Q 46) (-1))).2.2.1 41) (Q 46) x) = V at y1 hQ y44 y45 y41 yi yj
    have vi : ∀ k, k ≠ 46 → V.1 k = w.1 k := fun k hk => by rw [yi, upI_ne hk]
    have V65 : V.1 65 = I (t.length : Nat) := (vi 65 (by decide)).trans h65
    have V60 : V.2.2.1 60 t.length = I (e.1.length : Nat) := (y1 60 _ (Or.inl (by decide))).trans h60
    rw [V65, i_nt2 (p := t.length) (by omega), V60]
    refine r_ck (fun _ => r_lt ?_)
    refine h V hk ⟨?_, fun k hk => ?_⟩ hQ yj y1 y44 y45 (by rw [y41, hx]) vi
    · rw [qst_no (by decide)]
      exact PRS_x hR.1 (fun k hk => vi k (by rintro rfl; revert hk; decide)) (fun k hk => funext (fun n => y1 k n (Or.inl (by omega)))) ((vi 69 (by decide)).trans h69)
    · by_cases z : k = 46
      · subst z
        rw [yi, upI_at, qst_at]
        exact ⟨rfl, by omega⟩
      · rw [qst_no z, vi k z]; exact hR.2 k hk
  refine r_br (fun z => go 1 (by rw [if_pos (of_decide_eq_true z)])) (fun z => go 0 (by rw [if_neg (of_decide_eq_false z)]))
end
end
section
set_option maxRecDepth 100000
section
variable {α β : Type} {m0 w0 m w m2 w2 m3 w3 v u Z : MS} {K nm Nk W W2 : Nat → Nat} {N T D d o a b c cm p q k f i j x : Nat} {Q Q2 Q3 Q4 : Nat → Nat} {sc sc2 sc3 t : SCT} {g : Bool} {hs fs : List Nat} {v1 v2 v3 v4 v5 v8 : Int32} {RU : MS → α → MS → β → Prop} {X : MS → Int32 → Option (MS × α)} {B : Option (MS × β)}
theorem pt_end (hC : XCS m0 nm m a cm sc g) (h5 : HKc m hs v5) (h8 : HKc m fs v8) (hl : (∀ h, h ∈ hs → h < a) ∧ ∀ h, h ∈ fs → h < a ∧ h ∉ hs) (hh : ∀ Z, XCS m0 nm Z (a + 2) cm sc g → (∀ k, k ≠ 441 → Z.1 k = m.1 k) → (∀ k, k ≠ 23 → Z.2.2.1 k = m.2.2.1 k) → Z.2.2.2 = m.2.2.2 → (∀ j, j < a → j ∉ fs → Z.2.2.1 23 j = m.2.2.1 23 j) → (∀ j, j ∈ fs → Z.2.2.1 23 j = I ((a + 2 : Nat) : Int)) → Z.2.2.1 23 a = 18 → HKc Z ((a + 1) :: hs) (I ((a + 1 : Nat) : Int)) → PP RU (X Z (I ((a + 1 : Nat) : Int))) B) : PP RU (bnd (jm_Co_put N m 18) (fun u9 _ => bnd (jm_Co_hook N u9 v5) (fun u12 r12 => bnd (hm_Co_arrive N u12 v8) (fun u15 _ => X u15 r12)))) B := by
  refine l_put hC.1.2.2.1.1 hC.1.2.2.1.2.2 (fun ha => ?_)
  have k1 := XCS_put (x := 18) hC ha
  unfold jm_Co_hook jb_Co_hook_0
  rw [bnd_as2]
  refine l_put k1.1.2.2.1.1 k1.1.2.2.1.2.2 (fun ha1 => ?_)
  have k2 := XCS_put (x := v5) k1 ha1
  rw [bnd_s]
  have e441 : (ptc (ptc m a 18) (a + 1) v5).1 441 = I ((a + 1 + 1 : Nat) : Int) := k2.1.2.2.1.1
  rw [e441, I_sn]
  have em : ptc (ptc m a 18) (a + 1) v5 = ptcs m a [18, v5] := rfl
  rw [em] at k2 ⊢
  have oth : ∀ j, j < a → (ptcs m a [18, v5]).2.2.1 23 j = m.2.2.1 23 j := fun j hj => ptcs_o (Or.inl hj)
  have w0' : (ptcs m a [18, v5]).2.2.1 23 a = 18 := ptcs_at (l := [18, v5]) (k := 0) rfl
  have w1' : (ptcs m a [18, v5]).2.2.1 23 (a + 1) = v5 := ptcs_at (l := [18, v5]) (k := 1) rfl
  refine arr_n k2 (HKc_fr h8 (fun j hj => oth j (hl.2 j hj).1)) (fun Z hZ hZC => ?_)
  obtain ⟨z1, z2, z3, z4, z5⟩ := hZ
  have na : ∀ j, a ≤ j → j ∉ fs := fun j hj y => by have := (hl.2 j y).1; omega
  refine hh Z hZC (fun k hk => by rw [z1]; exact ptcs_i hk) (fun k hk => (z2 k hk).trans (ptcs_r hk)) z3 (fun j hj hf => (z4 j hf).trans (oth j hj)) z5 ((z4 a (na a (Nat.le_refl _))).trans w0') ⟨rfl, ⟨by omega, by omega⟩, fun h' hm => by have := hl.1 h' hm; omega, ?_⟩
  rw [z4 (a + 1) (na (a + 1) (by omega)), w1']
  exact HKc_fr h5 (fun j hj => (z4 j (fun y => (hl.2 j y).2 hj)).trans (oth j (hl.1 j hj)))
end
end
section
set_option maxRecDepth 100000
def EIx (fst : Option Nat) (kn : Int) : Int := match fst with
  | none => kn
  | some k => ((k : Nat) : Int)
def PTq (w0 : MS) (nm : Nat → Nat) (fof cvr : Int → Int → Int) (lst : Bool) (L : List Nat) (kd scn nd a0 a q0 q : Nat) (Q1 Q : Nat → Nat) (sc0 : SCT) (cm : Nat) (sc : SCT) (m w : MS) (hs : List Nat) (fst last : Option Nat) : Prop := ∀ (C : Nat → Int) (P R : Nat → Nat → Int) (J : Nat → Int64) (H : List Nat), FNx w0 fof cvr C P R J m w a0 a q0 q Q1 Q lst L hs last.toList → HNX nm sc cm H → (∀ u, q0 ≤ u → u < q → FUX C P R J u) ∧ ∀ (t b1 : Nat) (kn : Int), (∀ h, h ∈ hs → C h = ((t : Nat) : Int)) → R 26 nd = ((b1 : Nat) : Int) → CRe C R J none t b1 H (Onm nm sc0) → (∀ l, last = some l → R 45 l = kn) → (∃ f, ZRs C R J (CRs C R J f) kd scn H (Onm nm sc0) f a kn) → ∃ f, ZRs C R J (CRs C R J f) kd scn H (Onm nm sc0) f a0 (EIx fst kn)
section
variable {w0 m w m2 w2 m3 w3 : MS} {nm : Nat → Nat} {a a0 a2 q q0 q2 cm cm2 kd scn nd f f2 k0 e e2 b fl : Nat} {Q Q1 Q2 : Nat → Nat} {sc sc0 sc2 : SCT} {lst : Bool} {L hs : List Nat} {fof cvr : Int → Int → Int} {fst last : Option Nat} {C : Nat → Int} {P R : Nat → Nat → Int} {J : Nat → Int64} {H O O2 : List Nat} {kn : Int}
theorem PTq_0 : PTq w0 nm fof cvr lst L kd scn nd a a q q Q Q sc0 cm sc m w [] none none := fun C P R J H h1 h2 => ⟨fun u u1 u2 => by omega, fun t b1 kn h3 h4 h5 h6 h => h⟩
theorem zr_c (ha : a + 1 < 24000) (hk : k0 < 100000) (hh : (((kd = 2 ∨ (kd = 0 ∧ R 41 k0 = 0)) ∧ e = a ∧ O2 = O) ∨ (C a = 19 ∧ (∃ fl : Nat, C (a + 2) = ((fl : Nat) : Int) ∧ ∃ f, ZRs C R J (CRs C R J f) kd scn H O f fl (R 45 k0)) ∧ ∃ n e2 : Nat, ((kd = 0 ∧ (0 < n ∧ n ≤ 6) ∧ R 41 k0 = ((n : Nat) : Int) ∧ C (a + 1) = ((n : Nat) : Int)) ∨ (kd = 1 ∧ n = 1 ∧ C (a + 1) = -1) ∨ (kd = 3 ∧ n = 1 ∧ C (a + 1) = -2)) ∧ PTr C R J H 230 n (a + 3) (R 40 k0) O e2 O2 ∧ C e2 = 8 ∧ e = e2 + 1)))
    (hg : (R 42 k0 = -1 ∧ ∃ f, CHs C R (CRs C R J f) kd e k0 H O2) ∨ (∃ g fl : Nat, R 42 k0 = ((g : Nat) : Int) ∧ C e = 21 ∧ C (e + 1) = ((O2.length - O.length : Nat) : Int) ∧ C (e + 2) = ((fl : Nat) : Int) ∧ 0 < fl ∧ (∃ f, ZRs C R J (CRs C R J f) kd scn H O f fl (R 45 k0)) ∧ CRe C R J (some (kd, k0, scn)) (e + 3) g H O2)) : ∃ f, ZRs C R J (CRs C R J f) kd scn H O f a ((k0 : Nat) : Int) := by
  have zr : ∀ f F x k, f ≤ F → ZRs C R J (CRs C R J f) kd scn H O f x k → ZRs C R J (CRs C R J (F + 1)) kd scn H O F x k := fun f F x k hf h => ZR_mo (fun y a n H O h => CR_mo (by omega) h) hf h
  have ch : ∀ f F, f ≤ F → CHs C R (CRs C R J f) kd e k0 H O2 → CHs C R (CRs C R J (F + 1)) kd e k0 H O2 := fun f F hf h => CH_mo (fun y a n H O h => CR_mo (by omega) h) h
  have cr : ∀ f F y a n, f ≤ F → CRs C R J f y a n H O2 → CRs C R J (F + 1) y a n H O2 := fun f F y a n hf h => CR_mo (by omega) h
  have h1 : ∃ f1, ∀ F, f1 ≤ F → (((kd = 2 ∨ (kd = 0 ∧ R 41 k0 = 0)) ∧ e = a ∧ O2 = O) ∨ (C a = 19 ∧ (∃ fl : Nat, C (a + 2) = ((fl : Nat) : Int) ∧ ZRs C R J (CRs C R J (F + 1)) kd scn H O F fl (R 45 k0)) ∧ ∃ n e2 : Nat, ((kd = 0 ∧ (0 < n ∧ n ≤ 6) ∧ R 41 k0 = ((n : Nat) : Int) ∧ C (a + 1) = ((n : Nat) : Int)) ∨ (kd = 1 ∧ n = 1 ∧ C (a + 1) = -1) ∨ (kd = 3 ∧ n = 1 ∧ C (a + 1) = -2)) ∧ PTr C R J H 230 n (a + 3) (R 40 k0) O e2 O2 ∧ C e2 = 8 ∧ e = e2 + 1)) := by
    rcases hh with h | ⟨h1, ⟨fl, h2, f, h3⟩, h4⟩
    · exact ⟨0, fun F _ => Or.inl h⟩
    · exact ⟨f, fun F hF => Or.inr ⟨h1, ⟨fl, h2, zr f F _ _ hF h3⟩, h4⟩⟩
  have h2 : ∃ f2, ∀ F, f2 ≤ F → ((R 42 k0 = -1 ∧ CHs C R (CRs C R J (F + 1)) kd e k0 H O2) ∨ (∃ g fl : Nat, R 42 k0 = ((g : Nat) : Int) ∧ C e = 21 ∧ C (e + 1) = ((O2.length - O.length : Nat) : Int) ∧ C (e + 2) = ((fl : Nat) : Int) ∧ 0 < fl ∧ ZRs C R J (CRs C R J (F + 1)) kd scn H O F fl (R 45 k0) ∧ CRs C R J (F + 1) (some (kd, k0, scn)) (e + 3) g H O2)) := by
    rcases hg with ⟨h1, f, h2⟩ | ⟨g, fl, h1, h2, h3, h4, h5, ⟨f, h6⟩, ⟨f2, h7⟩⟩
    · exact ⟨f, fun F hF => Or.inl ⟨h1, ch f F hF h2⟩⟩
    · exact ⟨max f f2, fun F hF => Or.inr ⟨g, fl, h1, h2, h3, h4, h5, zr f F _ _ (by omega) h6, cr f2 F _ _ _ (by omega) h7⟩⟩
  obtain ⟨f1, h1⟩ := h1
  obtain ⟨f2, h2⟩ := h2
  exact ⟨max f1 f2 + 1, ha, Or.inr ⟨k0, ⟨rfl, hk⟩, e, O2, h1 _ (by omega), h2 _ (by omega)⟩⟩
end
end
section
set_option maxRecDepth 100000
def PTo (w0 : MS) (nm : Nat → Nat) (fof cvr : Int → Int → Int) (lst : Bool) (L : List Nat) (kd scn nd a a2 q q2 : Nat) (Q Q2 : Nat → Nat) (sc0 : SCT) (cm2 : Nat) (sc2 : SCT) (m2 w2 : MS) (hn k0 : Nat) : Prop := ∀ (C : Nat → Int) (P R : Nat → Nat → Int) (J : Nat → Int64) (H : List Nat), FNx w0 fof cvr C P R J m2 w2 a a2 q q2 Q Q2 lst L [hn] [k0] → HNX nm sc2 cm2 H → (∀ u, q ≤ u → u < q2 → FUX C P R J u) ∧ ∀ (t b1 : Nat) (kn : Int), C hn = ((t : Nat) : Int) → R 26 nd = ((b1 : Nat) : Int) → CRe C R J none t b1 H (Onm nm sc0) → R 45 k0 = kn → (∃ f, ZRs C R J (CRs C R J f) kd scn H (Onm nm sc0) f a2 kn) → ∃ f, ZRs C R J (CRs C R J f) kd scn H (Onm nm sc0) f a ((k0 : Nat) : Int)
section
variable {w0 m w m2 w2 m3 w3 : MS} {nm : Nat → Nat} {a a0 a2 q q0 q2 cm cm2 kd scn nd f f2 k0 hn : Nat} {Q Q1 Q2 : Nat → Nat} {sc sc0 sc2 : SCT} {lst : Bool} {L L2 hs : List Nat} {fof cvr : Int → Int → Int} {fst last : Option Nat}
theorem PTq_s (hP : PTq w0 nm fof cvr lst L kd scn nd a0 a q0 q Q1 Q sc0 cm sc m w hs fst last) (h1 : PTo w0 nm fof cvr lst L2 kd scn nd a a2 q q2 Q Q2 sc0 cm2 sc2 m2 w2 hn k0) (ho : a0 ≤ a ∧ a ≤ a2) (hq : q0 ≤ q ∧ q ≤ q2) (l1 : QLE Q1 Q) (l2 : QLE Q Q2) (hm : ∀ j, j < a → m2.2.2.1 23 j = m.2.2.1 23 j) (hp : ∀ k u, 30 ≤ k → k ≤ 32 → u < q → m2.2.2.1 k u = m.2.2.1 k u) (hw : ∀ k n, grp k ≠ 0 → k ≠ 29 → k ≠ 30 → Q1 (grp k) ≤ n → n < Q (grp k) → (k = 45 → n ∉ last.toList) → w2.2.2.1 k n = w.2.2.1 k n) (hj : ∀ n, n < Q 39 → w2.2.2.2 34 n = w.2.2.2 34 n) (h30 : ∀ n, n < Q 32 → A w2 30 n = A w 30 n) (hL : ∀ n, n ∈ L → n < Q 32) (hL2 : ∀ n, n ∈ L2 → Q 32 ≤ n) (hhs : ∀ h, h ∈ hs → h < a) (hhn : a ≤ hn) (hlast : ∀ l, last = some l → Q1 46 ≤ l ∧ l < Q 46 ∧ A w2 45 l = ((k0 : Nat) : Int)) (hk0 : Q 46 ≤ k0) (hx : ∀ H, HNX nm sc2 cm2 H → HNX nm sc cm H) : PTq w0 nm fof cvr lst (L ++ L2) kd scn nd a0 a2 q0 q2 Q1 Q2 sc0 cm2 sc2 m2 w2 (hn :: hs) (some (fst.getD k0)) (some k0) := by
  intro C P R J H fi hxH
  have l46 := l2 46 (by decide)
  have l32 := l2 32 (by decide)
  have f1 : FNx w0 fof cvr C P R J m w a0 a q0 q Q1 Q lst L hs last.toList := by
    refine FNx_mo fi ⟨Nat.le_refl _, ho.2⟩ ⟨Nat.le_refl _, hq.2⟩ QLE_rf l2 (fun j _ z2 _ => hm j z2) (fun k u z1 z2 _ z4 => hp k u z1 z2 z4) hw (fun n _ z => hj n z) (fun n _ z2 => ?_) (fun j hj j1 j2 => ?_) (fun j hj j1 j2 => ?_)
    · rw [h30 n z2]
      by_cases z : lst = true ∧ n ∈ L
      · rw [if_pos z, if_pos ⟨z.1, List.mem_append_left _ z.2⟩]
      · rw [if_neg z, if_neg (fun y => by
          rcases List.mem_append.mp y.2 with x | x
          · exact z ⟨y.1, x⟩
          · have := hL2 n x; omega)]
    · rcases List.mem_cons.mp hj with rfl | y
      · omega
      · exact y
    · have : j = k0 := by simpa using hj
      omega
  have f2 : FNx w0 fof cvr C P R J m2 w2 a a2 q q2 Q Q2 lst L2 [hn] [k0] := by
    refine FNx_mo fi ⟨ho.1, Nat.le_refl _⟩ ⟨hq.1, Nat.le_refl _⟩ l1 QLE_rf (fun _ _ _ _ => rfl) (fun _ _ _ _ _ _ => rfl) (fun _ _ _ _ _ _ _ _ => rfl) (fun _ _ _ => rfl) (fun n z1 z2 => ?_) (fun j hj j1 j2 => ?_) (fun j hj _ _ => hj)
    · by_cases z : lst = true ∧ n ∈ L2
      · rw [if_pos z, if_pos ⟨z.1, List.mem_append_right _ z.2⟩]
      · rw [if_neg z, if_neg (fun y => by
          rcases List.mem_append.mp y.2 with x | x
          · have := hL n x; omega
          · exact z ⟨y.1, x⟩)]
    · rcases List.mem_cons.mp hj with rfl | y
      · exact List.mem_cons_self
      · have := hhs j y; omega
  have e45 : ∀ l, last = some l → R 45 l = ((k0 : Nat) : Int) := fun l hl => by
    obtain ⟨g1, g2, g3⟩ := hlast l hl
    rw [fi.2.2.2.1.1 45 l (by decide) (by decide) (by decide) (by decide) (by decide) g1 (by show l < Q2 46; omega) (fun _ y => by
      have : l = k0 := by simpa using y
      omega), g3]
  obtain ⟨d1, d2⟩ := hP C P R J H f1 (hx H hxH)
  obtain ⟨c1, c2⟩ := h1 C P R J H f2 hxH
  refine ⟨fun u u1 u2 => ?_, fun t b1 kn hh hr26 hr h45 h => ?_⟩
  · by_cases z : u < q
    · exact d1 u u1 z
    · exact c1 u (by omega) u2
  · have := d2 t b1 ((k0 : Nat) : Int) (fun h hm => hh h (List.mem_cons_of_mem _ hm)) hr26 hr e45 (c2 t b1 kn (hh hn List.mem_cons_self) hr26 hr (h45 k0 rfl) h)
    cases fst with
    | none => exact this
    | some k => exact this
end
end
section
set_option maxRecDepth 100000
section
variable {w v u s : MS} {N a b L k : Nat} {x y : Int32} {sc : SCT}
theorem sv_k74 : ∀ (M : Nat) (s : MS) (i : Int32), PK (fun v (_ : Unit) => v.2.2.1 74 = s.2.2.1 74) (gg_M_save N M s i)
  | 0, _, _ => pk_none
  | M + 1, s, i => by
    show PK _ (fb_M_save_141 N (gg_M_save N M) s i)
    unfold fb_M_save_141
    refine pk_br (fun _ => pk_ltq (pk_some rfl)) (fun _ => pk_ck (fun _ => pk_ck (fun _ => pk_ltq (pk_ck (fun _ => pk_ck (fun _ => pk_ltq ?_))))))
    refine pk_mo (sv_k74 M _ _) (fun v _ h => ?_)
    rw [h, upA_no (by decide), upA_no (by decide)]
theorem tb_ki : ∀ (M : Nat) (s : MS) (i : Int32), PK (fun v (_ : Unit) => v.1 = s.1) (gg_M_takeBack N M s i)
  | 0, _, _ => pk_none
  | M + 1, s, i => by
    show PK _ (fb_M_takeBack_115 N (gg_M_takeBack N M) s i)
    unfold fb_M_takeBack_115
    refine pk_br (fun _ => pk_some rfl) (fun _ => pk_ck (fun _ => pk_ck (fun _ => pk_ltq (pk_ck (fun _ => pk_ck (fun _ => pk_ltq ?_))))))
    exact pk_mo (tb_ki M _ _) (fun v _ h => h)
theorem sv2 (ha : w.1 75 = I (a : Nat)) (ha4 : a < 400) : PK (fun v (_ : Unit) => v.2.2.1 74 (a + 1) = w.1 39 ∧ v.2.2.1 74 (a + 2) = w.1 46 ∧ v.2.2.1 74 (a + 3) = w.1 56 ∧ v.2.2.1 74 (a + 4) = w.1 58 ∧ v.2.2.1 74 (a + 5) = w.1 71) (fm_M_save N w) := by
  show PK _ (fb_M_save_0 N (gg_M_save N N) w)
  unfold fb_M_save_0
  refine sv_st (fun s1 i1 r1 x1 => ?_)
  refine sv_st (fun s2 i2 r2 x2 => ?_)
  refine sv_st (fun s3 i3 r3 x3 => ?_)
  refine sv_st (fun s4 i4 r4 x4 => ?_)
  refine sv_st (fun s5 i5 r5 x5 => ?_)
  refine sv_st (fun s6 i6 r6 x6 => ?_)
  refine sv_st (fun s7 i7 r7 x7 => ?_)
  have ia : ∀ (s : MS), s.1 = w.1 → ∀ (c : Nat) (z : Int32), z = I (c : Nat) → c < 100 → (s.1 75 + z).toNatClampNeg = a + c := fun s hs c z hz hc => by rw [hs, ha]; exact I_pl (by omega) hz
  have j1 := i1
  have j2 := i2.trans j1
  have j3 := i3.trans j2
  have j4 := i4.trans j3
  have j5 := i5.trans j4
  have j6 := i6.trans j5
  have j7 := i7.trans j6
  rw [ha, tnI (n := a) rfl (by omega)] at x1
  rw [ia s1 j1 1 1 rfl (by decide), j1] at x2
  rw [ia s2 j2 2 2 rfl (by decide), j2] at x3
  rw [ia s3 j3 3 3 rfl (by decide), j3] at x4
  rw [ia s4 j4 4 4 rfl (by decide), j4] at x5
  rw [ia s5 j5 5 5 rfl (by decide), j5] at x6
  rw [ia s6 j6 6 6 rfl (by decide), j6] at x7
  have fin : ∀ y : Int32, PK (fun v (_ : Unit) => v.2.2.1 74 (a + 1) = w.1 39 ∧ v.2.2.1 74 (a + 2) = w.1 46 ∧ v.2.2.1 74 (a + 3) = w.1 56 ∧ v.2.2.1 74 (a + 4) = w.1 58 ∧ v.2.2.1 74 (a + 5) = w.1 71) (fb_M_save_127 N (gg_M_save N N) s7 74 (s7.1 75 + 7) y) := fun y => by
    unfold fb_M_save_127
    refine pk_ck (fun _ => pk_ck (fun _ => pk_ltq (pk_ltq ?_)))
    rw [ia s7 j7 7 7 rfl (by decide)]
    refine pk_mo (sv_k74 N _ _) (fun v _ h => ?_)
    have e : v.2.2.1 74 = upd (s7.2.2.1 74) (a + 7) y := h.trans upA_at
    rw [e, x7, x6, x5, x4, x3, x2]
    refine ⟨?_, ?_, ?_, ?_, ?_⟩
    · rw [upd_no (by omega), upd_no (by omega), upd_no (by omega), upd_no (by omega), upd_no (by omega), upd_no (by omega), upd_at]
    · rw [upd_no (by omega), upd_no (by omega), upd_no (by omega), upd_no (by omega), upd_no (by omega), upd_at]
    · rw [upd_no (by omega), upd_no (by omega), upd_no (by omega), upd_no (by omega), upd_at]
    · rw [upd_no (by omega), upd_no (by omega), upd_no (by omega), upd_at]
    · rw [upd_no (by omega), upd_no (by omega), upd_at]
  exact pk_br (fun _ => fin 0) (fun _ => fin 1)
theorem tb2 (h75 : v.1 75 = I ((a + 8 : Nat) : Int)) (ha : a + 8 ≤ 400) : PK (fun x (_ : Unit) => x.1 39 = v.2.2.1 74 (a + 1) ∧ x.1 46 = v.2.2.1 74 (a + 2) ∧ x.1 56 = v.2.2.1 74 (a + 3) ∧ x.1 58 = v.2.2.1 74 (a + 4) ∧ x.1 71 = v.2.2.1 74 (a + 5)) (fm_M_takeBack N v) := by
  show PK _ (fb_M_takeBack_0 N (gg_M_takeBack N N) v)
  unfold fb_M_takeBack_0
  have d1 : v.1 75 - 8 = I (a : Nat) := by rw [h75]; exact (I_mn (a := a + 8) (c := 8) (by omega) rfl).trans (by congr 2)
  rw [d1]
  have ia : ∀ (c : Nat) (z : Int32), z = I (c : Nat) → c < 100 → (I (a : Nat) + z).toNatClampNeg = a + c := fun c z hz hc => I_pl (by omega) hz
  rw [tnI (n := a) rfl (by omega), ia 1 1 rfl (by decide), ia 2 2 rfl (by decide), ia 3 3 rfl (by decide), ia 4 4 rfl (by decide), ia 5 5 rfl (by decide), ia 6 6 rfl (by decide), ia 7 7 rfl (by decide)]
  refine pk_ck (fun _ => pk_ltq (pk_ck (fun _ => pk_ltq (pk_ck (fun _ => pk_ltq (pk_ck (fun _ => pk_ltq (pk_ck (fun _ => pk_ltq (pk_ck (fun _ => pk_ltq (pk_ck (fun _ => pk_ltq (pk_ck (fun _ => ?_)))))))))))))))
  generalize hw10 : upI _ 72 _ = w10
  have n39 : w10.1 39 = v.2.2.1 74 (a + 1) := by
    rw [← hw10, upI_ne (by decide), upI_ne (by decide), upI_ne (by decide), upI_ne (by decide), upI_ne (by decide), upI_at]; rfl
  have n46 : w10.1 46 = v.2.2.1 74 (a + 2) := by
    rw [← hw10, upI_ne (by decide), upI_ne (by decide), upI_ne (by decide), upI_ne (by decide), upI_at]; rfl
  have n56 : w10.1 56 = v.2.2.1 74 (a + 3) := by
    rw [← hw10, upI_ne (by decide), upI_ne (by decide), upI_ne (by decide), upI_at]; rfl
  have n58 : w10.1 58 = v.2.2.1 74 (a + 4) := by
    rw [← hw10, upI_ne (by decide), upI_ne (by decide), upI_at]; rfl
  have n71 : w10.1 71 = v.2.2.1 74 (a + 5) := by
    rw [← hw10, upI_ne (by decide), upI_at]; rfl
  clear hw10
  have fin : ∀ t1 : Int32, PK (fun x (_ : Unit) => x.1 39 = v.2.2.1 74 (a + 1) ∧ x.1 46 = v.2.2.1 74 (a + 2) ∧ x.1 56 = v.2.2.1 74 (a + 3) ∧ x.1 58 = v.2.2.1 74 (a + 4) ∧ x.1 71 = v.2.2.1 74 (a + 5)) (fb_M_takeBack_110 N (gg_M_takeBack N N) w10 t1) := fun t1 => by
    unfold fb_M_takeBack_110
    refine pk_ck (fun _ => pk_ltq ?_)
    refine pk_mo (tb_ki N _ _) (fun x _ h => ?_)
    rw [h]
    exact ⟨(upI_ne (by decide)).trans n39, (upI_ne (by decide)).trans n46, (upI_ne (by decide)).trans n56, (upI_ne (by decide)).trans n58, (upI_ne (by decide)).trans n71⟩
  exact pk_br (fun _ => fin 1) (fun _ => fin 0)
end
end
