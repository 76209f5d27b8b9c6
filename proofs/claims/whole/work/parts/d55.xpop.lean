/-! expressions: signs that are worked off, both -/
set_option maxRecDepth 100000
/-- the word of a sign -/
def opK (k : Nat) : Int32 := if k = 10 ∨ k = 18 ∨ k = 33 ∨ k = 34 ∨ k = 35 then 9 else if k = 43 ∨ k = 44 then 10 else 8
/-- a sign's number, here -/
def svT (k : Nat) : Int32 := if k < 20 then 100 + I (svK k : Nat) else I (svK k : Nat)
section
variable {α β : Type} {m0 w0 m w m2 w2 m3 w3 v u w1 mS wS : MS} {K nm Nk W W2 : Nat → Nat} {N T D d o a a0 b b0 c cm cm0 cm2 cm3 q q0 r s lo lo0 mid hi i j f f2 n k kk p p2 σ tk x xa xb M m1 lv y t tok : Nat} {Q Q0 Q2 Q3 Q4 : Nat → Nat} {sc sc0 sc2 sc3 : SCT} {g lst l2 : Bool} {L L1 L2 S : List Nat} {idc fof cvr : Int → Int → Int} {z : Unit} {rt v1 v2 v3 v4 v5 r0 : Int32} {fc : MS → Unit → Option (MS × Unit)} {RR : MS → Unit → MS → Int32 → Prop} {A' : Option (MS × Unit)} {B' : Option (MS × Int32)} {F : MS → Int32 → Option (MS × Int32)}
theorem kin3 : ∀ k, k < 46 → 3 ≤ rkK k → k = 10 ∨ k = 18 ∨ k = 31 ∨ k = 32 ∨ k = 33 ∨ k = 34 ∨ k = 35 ∨ k = 39 ∨ k = 40 ∨ k = 41 ∨ k = 42 ∨ k = 43 ∨ k = 44 := by decide
theorem tws_k : ∀ k, k < 46 → 3 ≤ rkK k → TWs (svT k).toInt (opK k).toInt ((k : Nat) : Int) := fun k h1 h2 => by
  rcases kin3 k h1 h2 with rfl | rfl | rfl | rfl | rfl | rfl | rfl | rfl | rfl | rfl | rfl | rfl | rfl <;> (unfold TWs; decide)
theorem join_l (hC : XCS m0 nm m a cm sc g) (hk : k < 46) (h3 : 3 ≤ rkK k) (ht : tk ≤ 4002) (h : XCS m0 nm (ptcs m a [opK k, I (k : Nat)]) (a + 2) cm sc g → PP RR (fc (ptcs m a [opK k, I (k : Nat)]) ()) B') : PP RR (bnd (jm_Cm_joining N m (I (k : Nat)) (I (tk : Nat))) fc) B' := by
  have two : ∀ x : Int32, x = opK k → PP RR (bnd (bnd (jm_Co_put N m x) (fun u5 _ => jb_Cm_joining_106 N () u5 (I (k : Nat)))) fc) B' := fun x hx => by
    rw [bnd_as2]
    refine l_put hC.1.2.2.1.1 hC.1.2.2.1.2.2 (fun ha => ?_)
    have h1 := XCS_put (x := x) hC ha
    unfold jb_Cm_joining_106
    rw [bnd_as2]
    refine l_put h1.1.2.2.1.1 h1.1.2.2.1.2.2 (fun ha1 => ?_)
    have h2 := XCS_put (x := I (k : Nat)) h1 ha1
    rw [bnd_s]
    subst hx
    exact h h2
  unfold jm_Cm_joining jb_Cm_joining_0
  rcases kin3 k hk h3 with rfl | rfl | rfl | rfl | rfl | rfl | rfl | rfl | rfl | rfl | rfl | rfl | rfl
  · rw [show decide (I ((10 : Nat) : Int) = (10 : Int32)) = true from rfl, br_t]
    exact two 9 rfl
  · rw [show decide (I ((18 : Nat) : Int) = (10 : Int32)) = false from rfl, br_f, show decide (I ((18 : Nat) : Int) = (18 : Int32)) = true from rfl, br_t]
    exact two 9 rfl
  · rw [show decide (I ((31 : Nat) : Int) = (10 : Int32)) = false from rfl, br_f, show decide (I ((31 : Nat) : Int) = (18 : Int32)) = false from rfl, br_f, show decide (I ((31 : Nat) : Int) = (33 : Int32)) = false from rfl, br_f, show decide (I ((31 : Nat) : Int) = (34 : Int32)) = false from rfl, br_f, show decide (I ((31 : Nat) : Int) = (35 : Int32)) = false from rfl, br_f, show decide (I ((31 : Nat) : Int) = (43 : Int32)) = false from rfl, br_f, show decide (I ((31 : Nat) : Int) = (44 : Int32)) = false from rfl, br_f]
    exact two 8 rfl
  · rw [show decide (I ((32 : Nat) : Int) = (10 : Int32)) = false from rfl, br_f, show decide (I ((32 : Nat) : Int) = (18 : Int32)) = false from rfl, br_f, show decide (I ((32 : Nat) : Int) = (33 : Int32)) = false from rfl, br_f, show decide (I ((32 : Nat) : Int) = (34 : Int32)) = false from rfl, br_f, show decide (I ((32 : Nat) : Int) = (35 : Int32)) = false from rfl, br_f, show decide (I ((32 : Nat) : Int) = (43 : Int32)) = false from rfl, br_f, show decide (I ((32 : Nat) : Int) = (44 : Int32)) = false from rfl, br_f]
    exact two 8 rfl
  · rw [show decide (I ((33 : Nat) : Int) = (10 : Int32)) = false from rfl, br_f, show decide (I ((33 : Nat) : Int) = (18 : Int32)) = false from rfl, br_f, show decide (I ((33 : Nat) : Int) = (33 : Int32)) = true from rfl, br_t]
    exact two 9 rfl
  · rw [show decide (I ((34 : Nat) : Int) = (10 : Int32)) = false from rfl, br_f, show decide (I ((34 : Nat) : Int) = (18 : Int32)) = false from rfl, br_f, show decide (I ((34 : Nat) : Int) = (33 : Int32)) = false from rfl, br_f, show decide (I ((34 : Nat) : Int) = (34 : Int32)) = true from rfl, br_t]
    exact two 9 rfl
  · rw [show decide (I ((35 : Nat) : Int) = (10 : Int32)) = false from rfl, br_f, show decide (I ((35 : Nat) : Int) = (18 : Int32)) = false from rfl, br_f, show decide (I ((35 : Nat) : Int) = (33 : Int32)) = false from rfl, br_f, show decide (I ((35 : Nat) : Int) = (34 : Int32)) = false from rfl, br_f, show decide (I ((35 : Nat) : Int) = (35 : Int32)) = true from rfl, br_t]
    exact two 9 rfl
  · rw [show decide (I ((39 : Nat) : Int) = (10 : Int32)) = false from rfl, br_f, show decide (I ((39 : Nat) : Int) = (18 : Int32)) = false from rfl, br_f, show decide (I ((39 : Nat) : Int) = (33 : Int32)) = false from rfl, br_f, show decide (I ((39 : Nat) : Int) = (34 : Int32)) = false from rfl, br_f, show decide (I ((39 : Nat) : Int) = (35 : Int32)) = false from rfl, br_f, show decide (I ((39 : Nat) : Int) = (43 : Int32)) = false from rfl, br_f, show decide (I ((39 : Nat) : Int) = (44 : Int32)) = false from rfl, br_f]
    exact two 8 rfl
  · rw [show decide (I ((40 : Nat) : Int) = (10 : Int32)) = false from rfl, br_f, show decide (I ((40 : Nat) : Int) = (18 : Int32)) = false from rfl, br_f, show decide (I ((40 : Nat) : Int) = (33 : Int32)) = false from rfl, br_f, show decide (I ((40 : Nat) : Int) = (34 : Int32)) = false from rfl, br_f, show decide (I ((40 : Nat) : Int) = (35 : Int32)) = false from rfl, br_f, show decide (I ((40 : Nat) : Int) = (43 : Int32)) = false from rfl, br_f, show decide (I ((40 : Nat) : Int) = (44 : Int32)) = false from rfl, br_f]
    exact two 8 rfl
  · rw [show decide (I ((41 : Nat) : Int) = (10 : Int32)) = false from rfl, br_f, show decide (I ((41 : Nat) : Int) = (18 : Int32)) = false from rfl, br_f, show decide (I ((41 : Nat) : Int) = (33 : Int32)) = false from rfl, br_f, show decide (I ((41 : Nat) : Int) = (34 : Int32)) = false from rfl, br_f, show decide (I ((41 : Nat) : Int) = (35 : Int32)) = false from rfl, br_f, show decide (I ((41 : Nat) : Int) = (43 : Int32)) = false from rfl, br_f, show decide (I ((41 : Nat) : Int) = (44 : Int32)) = false from rfl, br_f]
    exact two 8 rfl
  · rw [show decide (I ((42 : Nat) : Int) = (10 : Int32)) = false from rfl, br_f, show decide (I ((42 : Nat) : Int) = (18 : Int32)) = false from rfl, br_f, show decide (I ((42 : Nat) : Int) = (33 : Int32)) = false from rfl, br_f, show decide (I ((42 : Nat) : Int) = (34 : Int32)) = false from rfl, br_f, show decide (I ((42 : Nat) : Int) = (35 : Int32)) = false from rfl, br_f, show decide (I ((42 : Nat) : Int) = (43 : Int32)) = false from rfl, br_f, show decide (I ((42 : Nat) : Int) = (44 : Int32)) = false from rfl, br_f]
    exact two 8 rfl
  · rw [show decide (I ((43 : Nat) : Int) = (10 : Int32)) = false from rfl, br_f, show decide (I ((43 : Nat) : Int) = (18 : Int32)) = false from rfl, br_f, show decide (I ((43 : Nat) : Int) = (33 : Int32)) = false from rfl, br_f, show decide (I ((43 : Nat) : Int) = (34 : Int32)) = false from rfl, br_f, show decide (I ((43 : Nat) : Int) = (35 : Int32)) = false from rfl, br_f, show decide (I ((43 : Nat) : Int) = (43 : Int32)) = true from rfl, br_t, bnd_as2]
    exact l_ntg (tk := tk) hC.2 rfl ht (fun _ => two 10 rfl)
  · rw [show decide (I ((44 : Nat) : Int) = (10 : Int32)) = false from rfl, br_f, show decide (I ((44 : Nat) : Int) = (18 : Int32)) = false from rfl, br_f, show decide (I ((44 : Nat) : Int) = (33 : Int32)) = false from rfl, br_f, show decide (I ((44 : Nat) : Int) = (34 : Int32)) = false from rfl, br_f, show decide (I ((44 : Nat) : Int) = (35 : Int32)) = false from rfl, br_f, show decide (I ((44 : Nat) : Int) = (43 : Int32)) = false from rfl, br_f, show decide (I ((44 : Nat) : Int) = (44 : Int32)) = true from rfl, br_t, bnd_as2]
    exact l_ntg (tk := tk) hC.2 rfl ht (fun _ => two 10 rfl)
/-- a sign between two is worked off, here -/
theorem red_t (hT : TWK w K T) (htk : tok ≤ T) (hp : p < 3000) (h83 : w.1 83 = I ((p + 1 : Nat) : Int)) (hb : b0 ≤ p) (h79 : w.2.2.1 79 p = I (rkK (K tok) : Nat)) (h80 : w.2.2.1 80 p = I (tok : Nat)) (hlv : lv ≤ 6) (h3 : 3 ≤ rkK (K tok)) (hc : lv < rkK (K tok) ∨ (rkK (K tok) = lv ∧ rkK (K tok) ≠ 3 ∧ rkK (K tok) ≠ 4)) (n1 : w.1 32 = I (i : Nat)) (n2 : i ≤ 24000) (hG : ∀ M' v, i < 16000 → NOD (upI w 83 (I (p : Nat))) v i → v.1 69 = w.1 69 → A v 23 i = 6 → A v 25 i = (svT (K tok)).toInt → A v 28 i = -1 → PP RR A' (bnd (gg_M_reduce N M' v (I (b0 : Nat)) (I (lv : Nat)) (I (i : Nat)) 1) F)) : PP RR A' (bnd (gg_M_reduce N M w (I (b0 : Nat)) (I (lv : Nat)) r0 1) F) := by
  have t4 := hT.1.1
  have k46 := hT.1.k46 htk
  have r6 := rk6 k46
  cases M with
  | zero => exact pp_nr
  | succ M =>
    show PP RR A' (bnd (fb_M_reduce_6 N (gg_M_reduce N M) w (I (b0 : Nat)) (I (lv : Nat)) r0 1) F)
    unfold fb_M_reduce_6
    rw [show decide ((1 : Int32) = 0) = false from rfl, br_f, h83, decI (by omega) (by omega) (by omega) (by omega), decide_eq_false (by omega), br_f, I_sn, bnd_ck]
    refine r_ck (fun _ => ?_)
    rw [bnd_lt]
    refine r_lt ?_
    rw [tnI (n := p) rfl (by omega), h79]
    have e56 : PP RR A' (bnd (fb_M_reduce_56 N (gg_M_reduce N M) w (I (b0 : Nat)) (I (lv : Nat)) r0 (I (rkK (K tok) : Nat))) F) := by
      unfold fb_M_reduce_56 fb_M_reduce_61
      rw [show decide ((1 : Int32) = 0) = false from rfl, br_f, bnd_lt, h83, I_sn]
      refine r_lt ?_
      rw [I_dn (a := rkK (K tok)) (b := 7) (s := 7) (by omega) (by decide) rfl, decide_eq_false (by omega), br_f, show (3 : Int32) = I ((3 : Nat) : Int) from rfl, decI (by omega) (by omega) (by omega) (by omega), decide_eq_true (by omega), br_t, bnd_ck]
      refine r_ck (fun _ => ?_)
      have e83 : (upI w 83 (I (p : Nat))).1 83 = I (p : Nat) := upI_at
      have e80 : (upI w 83 (I (p : Nat))).2.2.1 80 p = I (tok : Nat) := h80
      have e69 : (upI w 83 (I (p : Nat))).1 69 = w.1 69 := upI_ne (by decide)
      have e32 : (upI w 83 (I (p : Nat))).1 32 = I (i : Nat) := by rw [upI_ne (by decide)]; exact n1
      have e6 : (upI w 83 (I (p : Nat))).2.2.1 6 tok = I (srK (K tok) : Nat) := hT.2.1 tok htk
      have kb : 5 ≤ K tok ∧ tok < T := by
        have z : ∀ k, k < 46 → 3 ≤ rkK k → 5 ≤ k ∧ 1 ≤ k ∧ k ≤ 44 := by decide
        have := z _ k46 h3
        exact ⟨this.1, hT.1.lt htk this.2.1 this.2.2⟩
      have e7 : (upI w 83 (I (p : Nat))).2.2.1 7 tok = I (svK (K tok) : Nat) := hT.2.2 tok kb.2 kb.1
      generalize upI w 83 (I (p : Nat)) = w9 at hG e83 e80 e69 e32 e6 e7 ⊢
      rw [bnd_as2, e83, tnI (n := p) rfl (by omega), e80]
      refine r_nod e32 n2 rfl (nsh (by omega)) (fun h16 => ?_)
      have d0 : NOD w9 (nwD w9 i 6 (I (tok : Nat))) i := NOD_0 e32
      obtain ⟨d1, d2, d3, d4, d5, d6, d7, d8⟩ := nwD_at (w := w9) (i := i) (k := 6) (t := I (tok : Nat))
      have f83 : (nwD w9 i 6 (I (tok : Nat))).1 83 = I (p : Nat) := by rw [nwD_i (by decide)]; exact e83
      have f69 : (nwD w9 i 6 (I (tok : Nat))).1 69 = w.1 69 := by rw [nwD_i (by decide)]; exact e69
      have f80 : (nwD w9 i 6 (I (tok : Nat))).2.2.1 80 p = I (tok : Nat) := by rw [nwD_r (by decide)]; exact e80
      have f6 : (nwD w9 i 6 (I (tok : Nat))).2.2.1 6 tok = I (srK (K tok) : Nat) := by rw [nwD_r (by decide)]; exact e6
      have f7 : (nwD w9 i 6 (I (tok : Nat))).2.2.1 7 tok = I (svK (K tok) : Nat) := by rw [nwD_r (by decide)]; exact e7
      generalize nwD w9 i 6 (I (tok : Nat)) = U at d0 d1 d2 d3 d4 d5 d6 d7 d8 f83 f69 f80 f6 f7
      rw [bnd_ck]
      refine r_ck (fun _ => ?_)
      rw [bnd_lt, f83, tnI (n := p) rfl (by omega), f80]
      refine r_lt ?_
      rw [i_nt (p := tok) (by omega), f6, bnd_ck]
      refine r_ck (fun _ => ?_)
      have go : ∀ x : Int32, x = svT (K tok) → PP RR A' (bnd (fb_M_reduce_254 N (gg_M_reduce N M) U (I (b0 : Nat)) (I (lv : Nat)) (I (i : Nat)) 1 25 (I (i : Nat)) x) F) := fun x hx => by
        unfold fb_M_reduce_254 fb_M_reduce_255
        rw [bnd_ck, bnd_ck]
        refine r_ck (fun _ => r_ck (fun _ => ?_))
        rw [bnd_lt, i_nt2 (p := i) (by omega)]
        refine r_lt ?_
        refine hG M _ h16 (NOD_A d0 (by decide)) f69 ?_ ?_ ?_
        · show ((upA U 25 _).2.2.1 23 i).toInt = 6
          rw [upA_no (by decide), d1]; rfl
        · show ((upA U 25 _).2.2.1 25 i).toInt = _
          rw [upA_at, upd_at, hx]
        · show ((upA U 25 _).2.2.1 28 i).toInt = _
          rw [upA_no (by decide), d6]; rfl
      have s3 : ∀ k, k < 46 → 5 ≤ k → (I (srK k : Nat) = I ((3 : Nat) : Int) ↔ k < 20) := fun k h1 h2 => (show (I (srK k : Nat) = I ((3 : Nat) : Int) ↔ 5 ≤ k ∧ k ≤ 19) from srK_3 k h1).trans (by omega)
      by_cases z : K tok < 20
      · rw [decide_eq_true ((s3 _ k46 kb.1).mpr z), br_t, bnd_ck, f7]
        exact r_ck (fun _ => go _ (by unfold svT; rw [if_pos z]))
      · rw [decide_eq_false (fun y => z ((s3 _ k46 kb.1).mp y)), br_f, bnd_ck, f7]
        exact r_ck (fun _ => go _ (by unfold svT; rw [if_neg z]))
    rcases hc with hc | ⟨hc, hc3, hc4⟩
    · rw [decide_eq_true ((I_lt (by omega) (by omega) (by omega) (by omega)).mpr (by omega)), br_t]
      exact e56
    · subst hc
      rw [decide_eq_false (fun z => by
        have := (I_lt (x := ((rkK (K tok) : Nat) : Int)) (y := ((rkK (K tok) : Nat) : Int)) (by omega) (by omega) (by omega) (by omega)).mp z
        omega), br_f, show decide (I (rkK (K tok) : Nat) = I (rkK (K tok) : Nat)) = true from decide_eq_true rfl, br_t, I_dn (a := rkK (K tok)) (b := 3) (s := 3) (by omega) (by decide) rfl, decide_eq_false (by omega), br_f, I_dn (a := rkK (K tok)) (b := 4) (s := 4) (by omega) (by decide) rfl, decide_eq_false (by omega), br_f]
      exact e56
/-- a sign between two is worked off, both -/
theorem pop_t (c : CTZ m0 w0 K T nm Nk) (h : SGA m0 w0 K T nm Nk fof cvr lst g lo0 a0 cm0 q0 Q0 sc0 mS wS (t :: S) y a cm q Q sc m w v2 v3 v4 v5) (h3 : 3 ≤ rkK (K t)) (hlv : lv ≤ 6) (hc : lv < rkK (K t) ∨ (rkK (K t) = lv ∧ rkK (K t) ≠ 3 ∧ rkK (K t) ≠ 4)) (hh : ∀ M' m3 v Q3, SGA m0 w0 K T nm Nk fof cvr lst g lo0 a0 cm0 q0 Q0 sc0 mS wS S y (a + 2) cm q Q3 sc m3 v v2 v3 v4 v5 → (Q0 32 ≤ Q 32 ∧ Q 32 < Q3 32) → A v 28 (Q 32) = -1 → (A v 23 (Q 32) ≠ 12 ∧ A v 23 (Q 32) ≠ 13) → PP RR (fc m3 ()) (bnd (gg_M_reduce N M' v (I (Q0 83 : Nat)) (I (lv : Nat)) (I (Q 32 : Nat)) 1) F)) : PP RR (bnd (jm_Cm_joining N m (I (K t : Nat)) (I (t : Nat))) fc) (bnd (gg_M_reduce N M w (I (Q0 83 : Nat)) (I (lv : Nat)) r0 1) F) := by
  have hnow := SGA_now h
  have hlen := SGA_len h
  have t4 := c.2.1.1.1
  obtain ⟨hs, a1, cm1, q1, Q1, sc1, m1, w1, w2', v2', v3', v4', v5', h2, hx⟩ := h
  have k46' : t ≤ T := (SGA_now h2).2.1.1.2.1.2
  have k46 := c.2.1.1.k46 k46'
  rcases hx with ⟨-, ⟨x1, x2, x3, x4, x5⟩, ht, rfl, rfl, rfl, rfl⟩ | ⟨k616, -⟩
  · have hC := hnow.1
    have hR := hnow.2.1
    have e83 : Q 83 = Q1 83 + 1 := by have := ht.2.2.2.2.2.2.1.2.2.2.2; rw [qst_at] at this; exact this
    have l1 := SGA_len h2
    have w83 : w.1 83 = I ((Q1 83 + 1 : Nat) : Int) := by have := (hR.2 83 (by decide)).1; rw [e83] at this; exact this
    have kp := ht.2.2.2.2.2.2.1.1.2.1
    have q83 : qst Q1 83 (Q1 83 + 1) 83 = Q1 83 + 1 := qst_at
    have e79 : w.2.2.1 79 (Q1 83) = I (rkK (K t) : Nat) := by rw [kp 79 (Q1 83) (by decide) (by show Q1 83 < qst Q1 83 (Q1 83 + 1) 83; omega)]; exact x3
    have e80 : w.2.2.1 80 (Q1 83) = I (t : Nat) := by rw [kp 80 (Q1 83) (by decide) (by show Q1 83 < qst Q1 83 (Q1 83 + 1) 83; omega)]; exact x4
    obtain ⟨n1, n2⟩ := XRS_q hR
    have kt3 : K t ≠ 3 := fun z => by rw [z] at h3; exact absurd h3 (by decide)
    refine join_l hC k46 h3 (by omega) (fun hC2 => ?_)
    refine red_t (XRS_wp c hR).1 k46' x5 w83 (by omega) e79 e80 hlv h3 hc n1 n2 (fun M' v h16 hN h69 r23 r25 r28 => ?_)
    have ht2 := XTR_83 (lo := t) ht rfl x2 (Nat.le_succ t) (fun j j1 j2 => by rw [show j = t by omega]; exact kt3)
    have hR2 := ht2.2.2.1.1
    have hyT := hR.1.2.1.2
    have e32 : qst Q 83 (Q1 83) 32 = Q 32 := qst_no (by decide)
    have ht3 := XT_nod (L := []) (lst := lst) (fof := fof) (cvr := cvr) (K := K) (Nk := Nk) (b := a + 2) ht2.2.1 hR2 ht2.2.2.1.2 ⟨Nat.le_refl y, hyT⟩ (fun j j1 j2 => by omega) (by omega) hC2 (XFC_ps XFC_rf (Nat.le_refl _)) (ptcs_r (by decide)) hN e32 h16 (h69.trans hR.1.2.1.1) (fun n hn => by cases hn) (fun C P R J H fi hx => ⟨fun u u1 u2 => by omega, fun y hy hr => ?_⟩)
    · refine hh M' _ v _ (SGA_ext h2 (XTR_tr ht2 ht3)) ⟨hlen.2.2.2.2.1, by rw [qst_at]; omega⟩ r28 (by rw [r23]; decide)
    · have gc := fi.1
      have ro : ∀ k, 23 ≤ k ∧ k ≤ 31 → k ≠ 27 ∧ k ≠ 29 ∧ k ≠ 30 → R k (Q 32) = A v k (Q 32) := fun k k1 k2 => FIN_R fi k1 k2 ⟨by rw [e32]; exact Nat.le_refl _, by rw [qst_at]; omega⟩
      have c0 := C_0 gc (show a < a + 2 by omega)
      have c1 : C (a + 1) = (I (K t : Nat)).toInt := C_at (k := 1) gc rfl (show a + 1 < a + 2 by omega)
      obtain ⟨b1, b2⟩ := XB c.2.2.1 ht2.2.1 hR2 hx (by rw [← e32] at h16; exact h16)
      obtain ⟨d, hd⟩ := hr
      rw [qst_at] at hd
      rw [e32] at b2 ⊢
      refine cr_1 b1 b2 ⟨d, Or.inr (Or.inr (Or.inr (Or.inr (Or.inr (Or.inr (Or.inl ⟨(ro 23 (by decide) (by decide)).trans r23, ?_, hd⟩))))))⟩
      rw [c0, c1, ro 25 (by decide) (by decide), r25, I_ti (by omega) (by omega)]
      exact tws_k _ k46 h3
  · exfalso
    rcases k616 with z | z <;> (rw [z] at h3; exact absurd h3 (by decide))
end
