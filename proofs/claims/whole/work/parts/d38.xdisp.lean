/-! expressions, there: which kind -/
set_option maxRecDepth 100000
section
variable {α β : Type} {N n tk a cm : Nat} {m m0 : MS} {nm : Nat → Nat} {sc : SCT} {g : Bool} {S : SF_Cm_fun} {v2 : Int32} {R : MS → Unit → MS → β → Prop} {B : Option (MS × β)} {RA : MS → α → MS → β → Prop} {f : MS → Unit → Option (MS × α)}
theorem flt_n {k : Nat} (ht : tk ≤ 4002) (hk : k ≤ 15) : jm_Cm_fault N m (I (tk : Nat)) (I (k : Nat)) = none := by
  show bnd (hb_Cm_fault_0 N () m (I (tk : Nat)) (I (k : Nat))) (fun w r => ck (decide (1000000000 ≤ w.1 714)) (some (w, r))) = none
  unfold hb_Cm_fault_0
  have e : I (tk : Nat) * 16 + I (k : Nat) = I ((tk * 16 + k : Nat) : Int) := by
    rw [show (16 : Int32) = I 16 from rfl, I_mul, I_add]
    congr 1
  rw [e]
  show bnd (some (upI m 714 (if I ((tk * 16 + k : Nat) : Int) < m.1 714 then I ((tk * 16 + k : Nat) : Int) else m.1 714), ())) _ = none
  rw [bnd_s, upI_at]
  have z : ¬ (1000000000 ≤ (if I ((tk * 16 + k : Nat) : Int) < m.1 714 then I ((tk * 16 + k : Nat) : Int) else m.1 714)) := fun h => by
    have b1 : (1000000000 : Int32) = I 1000000000 := rfl
    by_cases y : I ((tk * 16 + k : Nat) : Int) < m.1 714
    · rw [if_pos y, b1, I_le (by decide) (by decide) (by omega) (by omega)] at h
      omega
    · rw [if_neg y] at h
      rw [I_of (m.1 714)] at h y
      have r1 := Int32.le_toInt (m.1 714)
      have r2 := Int32.toInt_lt (m.1 714)
      rw [b1, I_le (by decide) (by decide) (by omega) (by omega)] at h
      rw [I_lt (by omega) (by omega) (by omega) (by omega)] at y
      omega
  rw [decide_eq_false z]
  rfl
theorem l_flt {k : Nat} {x y : Int32} (hx : x = I (tk : Nat)) (hy : y = I (k : Nat)) (ht : tk ≤ 4002) (hk : k ≤ 15) : PP RA (bnd (jm_Cm_fault N m x y) f) B := by
  rw [hx, hy, flt_n ht hk]
  exact pp_nl
theorem l_ntg {x : Int32} (hg : decide (m.1 712 = 0) = !g) (hx : x = I (tk : Nat)) (ht : tk ≤ 4002) (h : g = false → PP RA (f m ()) B) : PP RA (bnd (jm_Cm_notInGuard N m x) f) B := by
  unfold jm_Cm_notInGuard jb_Cm_notInGuard_0 jb_Cm_notInGuard_14
  rw [hg]
  cases g with
  | false => exact h rfl
  | true =>
    show PP RA (bnd (br false _ (bnd (jm_Cm_fault N m x 7) _)) f) B
    rw [br_f, hx, show (7 : Int32) = I ((7 : Nat) : Int) from rfl, flt_n ht (by decide)]
    exact pp_nl
theorem exd_1 (hn : n ≤ 8015) (h : m.2.2.1 16 n = I 1) (hh : PP R (bnd (jm_Co_put N m 1) (fun u24 r24 => ck (inb (I (n : Nat)) 8016) (bnd (jm_Cm_term N u24 0 (u24.2.2.1 18 n)) (fun u31 r31 => jb_Cm_expression_359 N S () u31)))) B) : PP R (jm_Cm_expression N S m (I (n : Nat)) v2) B := by
  unfold jm_Cm_expression jb_Cm_expression_0
  refine l_ck (fun _ => l_ck (fun _ => ?_))
  rw [i_nt2 (show n ≤ 100000 by omega), h, decide_eq_true (show (I 1 = (1 : Int32)) by decide), br_t]
  exact hh
theorem exd_2 (hn : n ≤ 8015) (h : m.2.2.1 16 n = I 2) (hh : PP R (bnd (jm_Co_put N m 1) (fun u33 r33 => ck (inb (I (n : Nat)) 8016) (bnd (jm_Cm_term N u33 1 (u33.2.2.1 18 n)) (fun u40 r40 => jb_Cm_expression_359 N S () u40)))) B) : PP R (jm_Cm_expression N S m (I (n : Nat)) v2) B := by
  unfold jm_Cm_expression jb_Cm_expression_0
  refine l_ck (fun _ => l_ck (fun _ => ?_))
  rw [i_nt2 (show n ≤ 100000 by omega), h, decide_eq_false (show ¬ (I 2 = (1 : Int32)) by decide), br_f, decide_eq_true (show (I 2 = (2 : Int32)) by decide), br_t]
  exact hh
theorem exd_3 (hn : n ≤ 8015) (h : m.2.2.1 16 n = I 3) (hh : PP R (ck (inb (I (n : Nat)) 8016) (br (decide ((m.2.2.1 18 n) = 0)) (jb_Cm_expression_221 N S () m ((I (n : Nat))) ((m.2.2.1 17 n))) (ck (inb (I (n : Nat)) 8016) (bnd (hm_Cm_isBound N m (m.2.2.1 18 n) (m.2.2.1 17 n) 0) (fun u51 r51 => br (decide (r51 = 0)) (jb_Cm_expression_221 N S () u51 ((I (n : Nat))) ((m.2.2.1 17 n))) (jb_Cm_expression_227 N S () u51 ((I (n : Nat))))))))) B) : PP R (jm_Cm_expression N S m (I (n : Nat)) v2) B := by
  unfold jm_Cm_expression jb_Cm_expression_0
  refine l_ck (fun _ => l_ck (fun _ => ?_))
  rw [i_nt2 (show n ≤ 100000 by omega), h, decide_eq_false (show ¬ (I 3 = (1 : Int32)) by decide), br_f, decide_eq_false (show ¬ (I 3 = (2 : Int32)) by decide), br_f, decide_eq_true (show (I 3 = (3 : Int32)) by decide), br_t]
  exact hh
theorem exd_4 (hn : n ≤ 8015) (h : m.2.2.1 16 n = I 4) (hh : PP R (bnd (jm_Cm_notInGuard N m (m.2.2.1 17 n)) (fun u52 r52 => bnd (jm_Co_put N u52 2) (fun u54 r54 => bnd (jm_Cm_string N u54 (I (n : Nat))) (fun u56 r56 => jb_Cm_expression_359 N S () u56)))) B) : PP R (jm_Cm_expression N S m (I (n : Nat)) v2) B := by
  unfold jm_Cm_expression jb_Cm_expression_0
  refine l_ck (fun _ => l_ck (fun _ => ?_))
  rw [i_nt2 (show n ≤ 100000 by omega), h, decide_eq_false (show ¬ (I 4 = (1 : Int32)) by decide), br_f, decide_eq_false (show ¬ (I 4 = (2 : Int32)) by decide), br_f, decide_eq_false (show ¬ (I 4 = (3 : Int32)) by decide), br_f, decide_eq_true (show (I 4 = (4 : Int32)) by decide), br_t]
  exact hh
theorem exd_5 (hn : n ≤ 8015) (h : m.2.2.1 16 n = I 5) (hh : PP R (ck (inb (I (n : Nat)) 8016) (bnd (S.2.2.2.2.2.2.2.2.2.2.1 m (m.2.2.1 18 n) v2) (fun u62 r62 => jb_Cm_expression_359 N S () u62))) B) : PP R (jm_Cm_expression N S m (I (n : Nat)) v2) B := by
  unfold jm_Cm_expression jb_Cm_expression_0
  refine l_ck (fun _ => l_ck (fun _ => ?_))
  rw [i_nt2 (show n ≤ 100000 by omega), h, decide_eq_false (show ¬ (I 5 = (1 : Int32)) by decide), br_f, decide_eq_false (show ¬ (I 5 = (2 : Int32)) by decide), br_f, decide_eq_false (show ¬ (I 5 = (3 : Int32)) by decide), br_f, decide_eq_false (show ¬ (I 5 = (4 : Int32)) by decide), br_f, decide_eq_true (show (I 5 = (5 : Int32)) by decide), br_t]
  exact hh
theorem exd_6 (hn : n ≤ 8015) (h : m.2.2.1 16 n = I 6) (hh : PP R (ck (inb (I (n : Nat)) 8016) (bnd (S.2.2.2.2.2.2.2.2.2.1 m (m.2.2.1 18 n)) (fun u68 r68 => bnd (jm_Co_put N u68 4) (fun u70 r70 => ck (inb (I (n : Nat)) 8016) (bnd (jm_Co_put N u70 (u70.2.2.1 19 n)) (fun u78 r78 => jb_Cm_expression_359 N S () u78)))))) B) : PP R (jm_Cm_expression N S m (I (n : Nat)) v2) B := by
  unfold jm_Cm_expression jb_Cm_expression_0
  refine l_ck (fun _ => l_ck (fun _ => ?_))
  rw [i_nt2 (show n ≤ 100000 by omega), h, decide_eq_false (show ¬ (I 6 = (1 : Int32)) by decide), br_f, decide_eq_false (show ¬ (I 6 = (2 : Int32)) by decide), br_f, decide_eq_false (show ¬ (I 6 = (3 : Int32)) by decide), br_f, decide_eq_false (show ¬ (I 6 = (4 : Int32)) by decide), br_f, decide_eq_false (show ¬ (I 6 = (5 : Int32)) by decide), br_f, decide_eq_true (show (I 6 = (6 : Int32)) by decide), br_t]
  exact hh
theorem exd_7 (hn : n ≤ 8015) (h : m.2.2.1 16 n = I 7) (hh : PP R (bnd (S.2.2.2.2.2.2.2.2.1 m (I (n : Nat))) (fun u80 r80 => jb_Cm_expression_359 N S () u80)) B) : PP R (jm_Cm_expression N S m (I (n : Nat)) v2) B := by
  unfold jm_Cm_expression jb_Cm_expression_0
  refine l_ck (fun _ => l_ck (fun _ => ?_))
  rw [i_nt2 (show n ≤ 100000 by omega), h, decide_eq_false (show ¬ (I 7 = (1 : Int32)) by decide), br_f, decide_eq_false (show ¬ (I 7 = (2 : Int32)) by decide), br_f, decide_eq_false (show ¬ (I 7 = (3 : Int32)) by decide), br_f, decide_eq_false (show ¬ (I 7 = (4 : Int32)) by decide), br_f, decide_eq_false (show ¬ (I 7 = (5 : Int32)) by decide), br_f, decide_eq_false (show ¬ (I 7 = (6 : Int32)) by decide), br_f, decide_eq_true (show (I 7 = (7 : Int32)) by decide), br_t]
  exact hh
theorem exd_8 (hn : n ≤ 8015) (h : m.2.2.1 16 n = I 8) (hh : PP R (bnd (S.2.2.2.2.1 m (I (n : Nat)) v2) (fun u81 r81 => jb_Cm_expression_359 N S () u81)) B) : PP R (jm_Cm_expression N S m (I (n : Nat)) v2) B := by
  unfold jm_Cm_expression jb_Cm_expression_0
  refine l_ck (fun _ => l_ck (fun _ => ?_))
  rw [i_nt2 (show n ≤ 100000 by omega), h, decide_eq_false (show ¬ (I 8 = (1 : Int32)) by decide), br_f, decide_eq_false (show ¬ (I 8 = (2 : Int32)) by decide), br_f, decide_eq_false (show ¬ (I 8 = (3 : Int32)) by decide), br_f, decide_eq_false (show ¬ (I 8 = (4 : Int32)) by decide), br_f, decide_eq_false (show ¬ (I 8 = (5 : Int32)) by decide), br_f, decide_eq_false (show ¬ (I 8 = (6 : Int32)) by decide), br_f, decide_eq_false (show ¬ (I 8 = (7 : Int32)) by decide), br_f, decide_eq_true (show (I 8 = (8 : Int32)) by decide), br_t]
  exact hh
theorem exd_9 (hn : n ≤ 8015) (h : m.2.2.1 16 n = I 9) (hh : PP R (bnd (S.2.2.2.2.1 m (I (n : Nat)) v2) (fun u82 r82 => jb_Cm_expression_359 N S () u82)) B) : PP R (jm_Cm_expression N S m (I (n : Nat)) v2) B := by
  unfold jm_Cm_expression jb_Cm_expression_0
  refine l_ck (fun _ => l_ck (fun _ => ?_))
  rw [i_nt2 (show n ≤ 100000 by omega), h, decide_eq_false (show ¬ (I 9 = (1 : Int32)) by decide), br_f, decide_eq_false (show ¬ (I 9 = (2 : Int32)) by decide), br_f, decide_eq_false (show ¬ (I 9 = (3 : Int32)) by decide), br_f, decide_eq_false (show ¬ (I 9 = (4 : Int32)) by decide), br_f, decide_eq_false (show ¬ (I 9 = (5 : Int32)) by decide), br_f, decide_eq_false (show ¬ (I 9 = (6 : Int32)) by decide), br_f, decide_eq_false (show ¬ (I 9 = (7 : Int32)) by decide), br_f, decide_eq_false (show ¬ (I 9 = (8 : Int32)) by decide), br_f, decide_eq_true (show (I 9 = (9 : Int32)) by decide), br_t]
  exact hh
theorem exd_10 (hn : n ≤ 8015) (h : m.2.2.1 16 n = I 10) (hh : PP R (bnd (S.2.2.2.2.1 m (I (n : Nat)) v2) (fun u83 r83 => jb_Cm_expression_359 N S () u83)) B) : PP R (jm_Cm_expression N S m (I (n : Nat)) v2) B := by
  unfold jm_Cm_expression jb_Cm_expression_0
  refine l_ck (fun _ => l_ck (fun _ => ?_))
  rw [i_nt2 (show n ≤ 100000 by omega), h, decide_eq_false (show ¬ (I 10 = (1 : Int32)) by decide), br_f, decide_eq_false (show ¬ (I 10 = (2 : Int32)) by decide), br_f, decide_eq_false (show ¬ (I 10 = (3 : Int32)) by decide), br_f, decide_eq_false (show ¬ (I 10 = (4 : Int32)) by decide), br_f, decide_eq_false (show ¬ (I 10 = (5 : Int32)) by decide), br_f, decide_eq_false (show ¬ (I 10 = (6 : Int32)) by decide), br_f, decide_eq_false (show ¬ (I 10 = (7 : Int32)) by decide), br_f, decide_eq_false (show ¬ (I 10 = (8 : Int32)) by decide), br_f, decide_eq_false (show ¬ (I 10 = (9 : Int32)) by decide), br_f, decide_eq_true (show (I 10 = (10 : Int32)) by decide), br_t]
  exact hh
theorem exd_11 (hn : n ≤ 8015) (h : m.2.2.1 16 n = I 11) (hh : PP R (bnd (S.2.2.2.2.1 m (I (n : Nat)) v2) (fun u84 r84 => jb_Cm_expression_359 N S () u84)) B) : PP R (jm_Cm_expression N S m (I (n : Nat)) v2) B := by
  unfold jm_Cm_expression jb_Cm_expression_0
  refine l_ck (fun _ => l_ck (fun _ => ?_))
  rw [i_nt2 (show n ≤ 100000 by omega), h, decide_eq_false (show ¬ (I 11 = (1 : Int32)) by decide), br_f, decide_eq_false (show ¬ (I 11 = (2 : Int32)) by decide), br_f, decide_eq_false (show ¬ (I 11 = (3 : Int32)) by decide), br_f, decide_eq_false (show ¬ (I 11 = (4 : Int32)) by decide), br_f, decide_eq_false (show ¬ (I 11 = (5 : Int32)) by decide), br_f, decide_eq_false (show ¬ (I 11 = (6 : Int32)) by decide), br_f, decide_eq_false (show ¬ (I 11 = (7 : Int32)) by decide), br_f, decide_eq_false (show ¬ (I 11 = (8 : Int32)) by decide), br_f, decide_eq_false (show ¬ (I 11 = (9 : Int32)) by decide), br_f, decide_eq_false (show ¬ (I 11 = (10 : Int32)) by decide), br_f, decide_eq_true (show (I 11 = (11 : Int32)) by decide), br_t]
  exact hh
theorem exd_12 (hn : n ≤ 8015) (h : m.2.2.1 16 n = I 12) (hh : PP R (bnd (S.2.2.2.2.1 m (I (n : Nat)) v2) (fun u85 r85 => jb_Cm_expression_359 N S () u85)) B) : PP R (jm_Cm_expression N S m (I (n : Nat)) v2) B := by
  unfold jm_Cm_expression jb_Cm_expression_0
  refine l_ck (fun _ => l_ck (fun _ => ?_))
  rw [i_nt2 (show n ≤ 100000 by omega), h, decide_eq_false (show ¬ (I 12 = (1 : Int32)) by decide), br_f, decide_eq_false (show ¬ (I 12 = (2 : Int32)) by decide), br_f, decide_eq_false (show ¬ (I 12 = (3 : Int32)) by decide), br_f, decide_eq_false (show ¬ (I 12 = (4 : Int32)) by decide), br_f, decide_eq_false (show ¬ (I 12 = (5 : Int32)) by decide), br_f, decide_eq_false (show ¬ (I 12 = (6 : Int32)) by decide), br_f, decide_eq_false (show ¬ (I 12 = (7 : Int32)) by decide), br_f, decide_eq_false (show ¬ (I 12 = (8 : Int32)) by decide), br_f, decide_eq_false (show ¬ (I 12 = (9 : Int32)) by decide), br_f, decide_eq_false (show ¬ (I 12 = (10 : Int32)) by decide), br_f, decide_eq_false (show ¬ (I 12 = (11 : Int32)) by decide), br_f, decide_eq_true (show (I 12 = (12 : Int32)) by decide), br_t]
  exact hh
theorem exd_13 (hn : n ≤ 8015) (h : m.2.2.1 16 n = I 13) (hh : PP R (bnd (S.2.2.2.2.1 m (I (n : Nat)) v2) (fun u86 r86 => jb_Cm_expression_359 N S () u86)) B) : PP R (jm_Cm_expression N S m (I (n : Nat)) v2) B := by
  unfold jm_Cm_expression jb_Cm_expression_0
  refine l_ck (fun _ => l_ck (fun _ => ?_))
  rw [i_nt2 (show n ≤ 100000 by omega), h, decide_eq_false (show ¬ (I 13 = (1 : Int32)) by decide), br_f, decide_eq_false (show ¬ (I 13 = (2 : Int32)) by decide), br_f, decide_eq_false (show ¬ (I 13 = (3 : Int32)) by decide), br_f, decide_eq_false (show ¬ (I 13 = (4 : Int32)) by decide), br_f, decide_eq_false (show ¬ (I 13 = (5 : Int32)) by decide), br_f, decide_eq_false (show ¬ (I 13 = (6 : Int32)) by decide), br_f, decide_eq_false (show ¬ (I 13 = (7 : Int32)) by decide), br_f, decide_eq_false (show ¬ (I 13 = (8 : Int32)) by decide), br_f, decide_eq_false (show ¬ (I 13 = (9 : Int32)) by decide), br_f, decide_eq_false (show ¬ (I 13 = (10 : Int32)) by decide), br_f, decide_eq_false (show ¬ (I 13 = (11 : Int32)) by decide), br_f, decide_eq_false (show ¬ (I 13 = (12 : Int32)) by decide), br_f, decide_eq_true (show (I 13 = (13 : Int32)) by decide), br_t]
  exact hh
theorem exd_14 (hn : n ≤ 8015) (h : m.2.2.1 16 n = I 14) (hh : PP R (bnd (S.2.2.2.2.2.2.1 m (I (n : Nat)) v2) (fun u87 r87 => jb_Cm_expression_359 N S () u87)) B) : PP R (jm_Cm_expression N S m (I (n : Nat)) v2) B := by
  unfold jm_Cm_expression jb_Cm_expression_0
  refine l_ck (fun _ => l_ck (fun _ => ?_))
  rw [i_nt2 (show n ≤ 100000 by omega), h, decide_eq_false (show ¬ (I 14 = (1 : Int32)) by decide), br_f, decide_eq_false (show ¬ (I 14 = (2 : Int32)) by decide), br_f, decide_eq_false (show ¬ (I 14 = (3 : Int32)) by decide), br_f, decide_eq_false (show ¬ (I 14 = (4 : Int32)) by decide), br_f, decide_eq_false (show ¬ (I 14 = (5 : Int32)) by decide), br_f, decide_eq_false (show ¬ (I 14 = (6 : Int32)) by decide), br_f, decide_eq_false (show ¬ (I 14 = (7 : Int32)) by decide), br_f, decide_eq_false (show ¬ (I 14 = (8 : Int32)) by decide), br_f, decide_eq_false (show ¬ (I 14 = (9 : Int32)) by decide), br_f, decide_eq_false (show ¬ (I 14 = (10 : Int32)) by decide), br_f, decide_eq_false (show ¬ (I 14 = (11 : Int32)) by decide), br_f, decide_eq_false (show ¬ (I 14 = (12 : Int32)) by decide), br_f, decide_eq_false (show ¬ (I 14 = (13 : Int32)) by decide), br_f, decide_eq_true (show (I 14 = (14 : Int32)) by decide), br_t]
  exact hh
theorem exd_15 (hn : n ≤ 8015) (h : m.2.2.1 16 n = I 15) (hh : PP R (bnd (S.2.2.2.2.2.1 m (I (n : Nat)) v2) (fun u88 r88 => jb_Cm_expression_359 N S () u88)) B) : PP R (jm_Cm_expression N S m (I (n : Nat)) v2) B := by
  unfold jm_Cm_expression jb_Cm_expression_0
  refine l_ck (fun _ => l_ck (fun _ => ?_))
  rw [i_nt2 (show n ≤ 100000 by omega), h, decide_eq_false (show ¬ (I 15 = (1 : Int32)) by decide), br_f, decide_eq_false (show ¬ (I 15 = (2 : Int32)) by decide), br_f, decide_eq_false (show ¬ (I 15 = (3 : Int32)) by decide), br_f, decide_eq_false (show ¬ (I 15 = (4 : Int32)) by decide), br_f, decide_eq_false (show ¬ (I 15 = (5 : Int32)) by decide), br_f, decide_eq_false (show ¬ (I 15 = (6 : Int32)) by decide), br_f, decide_eq_false (show ¬ (I 15 = (7 : Int32)) by decide), br_f, decide_eq_false (show ¬ (I 15 = (8 : Int32)) by decide), br_f, decide_eq_false (show ¬ (I 15 = (9 : Int32)) by decide), br_f, decide_eq_false (show ¬ (I 15 = (10 : Int32)) by decide), br_f, decide_eq_false (show ¬ (I 15 = (11 : Int32)) by decide), br_f, decide_eq_false (show ¬ (I 15 = (12 : Int32)) by decide), br_f, decide_eq_false (show ¬ (I 15 = (13 : Int32)) by decide), br_f, decide_eq_false (show ¬ (I 15 = (14 : Int32)) by decide), br_f, decide_eq_true (show (I 15 = (15 : Int32)) by decide), br_t]
  exact hh
theorem exd_16 (hn : n ≤ 8015) (h : m.2.2.1 16 n = I 16) (hh : PP R (bnd (S.2.2.2.2.1 m (I (n : Nat)) v2) (fun u89 r89 => jb_Cm_expression_359 N S () u89)) B) : PP R (jm_Cm_expression N S m (I (n : Nat)) v2) B := by
  unfold jm_Cm_expression jb_Cm_expression_0
  refine l_ck (fun _ => l_ck (fun _ => ?_))
  rw [i_nt2 (show n ≤ 100000 by omega), h, decide_eq_false (show ¬ (I 16 = (1 : Int32)) by decide), br_f, decide_eq_false (show ¬ (I 16 = (2 : Int32)) by decide), br_f, decide_eq_false (show ¬ (I 16 = (3 : Int32)) by decide), br_f, decide_eq_false (show ¬ (I 16 = (4 : Int32)) by decide), br_f, decide_eq_false (show ¬ (I 16 = (5 : Int32)) by decide), br_f, decide_eq_false (show ¬ (I 16 = (6 : Int32)) by decide), br_f, decide_eq_false (show ¬ (I 16 = (7 : Int32)) by decide), br_f, decide_eq_false (show ¬ (I 16 = (8 : Int32)) by decide), br_f, decide_eq_false (show ¬ (I 16 = (9 : Int32)) by decide), br_f, decide_eq_false (show ¬ (I 16 = (10 : Int32)) by decide), br_f, decide_eq_false (show ¬ (I 16 = (11 : Int32)) by decide), br_f, decide_eq_false (show ¬ (I 16 = (12 : Int32)) by decide), br_f, decide_eq_false (show ¬ (I 16 = (13 : Int32)) by decide), br_f, decide_eq_false (show ¬ (I 16 = (14 : Int32)) by decide), br_f, decide_eq_false (show ¬ (I 16 = (15 : Int32)) by decide), br_f, decide_eq_true (show (I 16 = (16 : Int32)) by decide), br_t]
  exact hh
theorem exd_17 (hn : n ≤ 8015) (h : m.2.2.1 16 n = I 17) (hh : PP R (bnd (S.2.2.2.2.1 m (I (n : Nat)) v2) (fun u90 r90 => jb_Cm_expression_359 N S () u90)) B) : PP R (jm_Cm_expression N S m (I (n : Nat)) v2) B := by
  unfold jm_Cm_expression jb_Cm_expression_0
  refine l_ck (fun _ => l_ck (fun _ => ?_))
  rw [i_nt2 (show n ≤ 100000 by omega), h, decide_eq_false (show ¬ (I 17 = (1 : Int32)) by decide), br_f, decide_eq_false (show ¬ (I 17 = (2 : Int32)) by decide), br_f, decide_eq_false (show ¬ (I 17 = (3 : Int32)) by decide), br_f, decide_eq_false (show ¬ (I 17 = (4 : Int32)) by decide), br_f, decide_eq_false (show ¬ (I 17 = (5 : Int32)) by decide), br_f, decide_eq_false (show ¬ (I 17 = (6 : Int32)) by decide), br_f, decide_eq_false (show ¬ (I 17 = (7 : Int32)) by decide), br_f, decide_eq_false (show ¬ (I 17 = (8 : Int32)) by decide), br_f, decide_eq_false (show ¬ (I 17 = (9 : Int32)) by decide), br_f, decide_eq_false (show ¬ (I 17 = (10 : Int32)) by decide), br_f, decide_eq_false (show ¬ (I 17 = (11 : Int32)) by decide), br_f, decide_eq_false (show ¬ (I 17 = (12 : Int32)) by decide), br_f, decide_eq_false (show ¬ (I 17 = (13 : Int32)) by decide), br_f, decide_eq_false (show ¬ (I 17 = (14 : Int32)) by decide), br_f, decide_eq_false (show ¬ (I 17 = (15 : Int32)) by decide), br_f, decide_eq_false (show ¬ (I 17 = (16 : Int32)) by decide), br_f, decide_eq_true (show (I 17 = (17 : Int32)) by decide), br_t]
  exact hh
theorem exd_18 (hn : n ≤ 8015) (h : m.2.2.1 16 n = I 18) (hh : PP R (bnd (S.2.2.2.2.1 m (I (n : Nat)) v2) (fun u91 r91 => jb_Cm_expression_359 N S () u91)) B) : PP R (jm_Cm_expression N S m (I (n : Nat)) v2) B := by
  unfold jm_Cm_expression jb_Cm_expression_0
  refine l_ck (fun _ => l_ck (fun _ => ?_))
  rw [i_nt2 (show n ≤ 100000 by omega), h, decide_eq_false (show ¬ (I 18 = (1 : Int32)) by decide), br_f, decide_eq_false (show ¬ (I 18 = (2 : Int32)) by decide), br_f, decide_eq_false (show ¬ (I 18 = (3 : Int32)) by decide), br_f, decide_eq_false (show ¬ (I 18 = (4 : Int32)) by decide), br_f, decide_eq_false (show ¬ (I 18 = (5 : Int32)) by decide), br_f, decide_eq_false (show ¬ (I 18 = (6 : Int32)) by decide), br_f, decide_eq_false (show ¬ (I 18 = (7 : Int32)) by decide), br_f, decide_eq_false (show ¬ (I 18 = (8 : Int32)) by decide), br_f, decide_eq_false (show ¬ (I 18 = (9 : Int32)) by decide), br_f, decide_eq_false (show ¬ (I 18 = (10 : Int32)) by decide), br_f, decide_eq_false (show ¬ (I 18 = (11 : Int32)) by decide), br_f, decide_eq_false (show ¬ (I 18 = (12 : Int32)) by decide), br_f, decide_eq_false (show ¬ (I 18 = (13 : Int32)) by decide), br_f, decide_eq_false (show ¬ (I 18 = (14 : Int32)) by decide), br_f, decide_eq_false (show ¬ (I 18 = (15 : Int32)) by decide), br_f, decide_eq_false (show ¬ (I 18 = (16 : Int32)) by decide), br_f, decide_eq_false (show ¬ (I 18 = (17 : Int32)) by decide), br_f, decide_eq_true (show (I 18 = (18 : Int32)) by decide), br_t]
  exact hh
theorem exd_19 (hn : n ≤ 8015) (h : m.2.2.1 16 n = I 19) (hh : PP R (bnd (S.2.2.2.2.1 m (I (n : Nat)) v2) (fun u92 r92 => jb_Cm_expression_359 N S () u92)) B) : PP R (jm_Cm_expression N S m (I (n : Nat)) v2) B := by
  unfold jm_Cm_expression jb_Cm_expression_0
  refine l_ck (fun _ => l_ck (fun _ => ?_))
  rw [i_nt2 (show n ≤ 100000 by omega), h, decide_eq_false (show ¬ (I 19 = (1 : Int32)) by decide), br_f, decide_eq_false (show ¬ (I 19 = (2 : Int32)) by decide), br_f, decide_eq_false (show ¬ (I 19 = (3 : Int32)) by decide), br_f, decide_eq_false (show ¬ (I 19 = (4 : Int32)) by decide), br_f, decide_eq_false (show ¬ (I 19 = (5 : Int32)) by decide), br_f, decide_eq_false (show ¬ (I 19 = (6 : Int32)) by decide), br_f, decide_eq_false (show ¬ (I 19 = (7 : Int32)) by decide), br_f, decide_eq_false (show ¬ (I 19 = (8 : Int32)) by decide), br_f, decide_eq_false (show ¬ (I 19 = (9 : Int32)) by decide), br_f, decide_eq_false (show ¬ (I 19 = (10 : Int32)) by decide), br_f, decide_eq_false (show ¬ (I 19 = (11 : Int32)) by decide), br_f, decide_eq_false (show ¬ (I 19 = (12 : Int32)) by decide), br_f, decide_eq_false (show ¬ (I 19 = (13 : Int32)) by decide), br_f, decide_eq_false (show ¬ (I 19 = (14 : Int32)) by decide), br_f, decide_eq_false (show ¬ (I 19 = (15 : Int32)) by decide), br_f, decide_eq_false (show ¬ (I 19 = (16 : Int32)) by decide), br_f, decide_eq_false (show ¬ (I 19 = (17 : Int32)) by decide), br_f, decide_eq_false (show ¬ (I 19 = (18 : Int32)) by decide), br_f, decide_eq_true (show (I 19 = (19 : Int32)) by decide), br_t]
  exact hh
theorem exd_20 (hn : n ≤ 8015) (h : m.2.2.1 16 n = I 20) (hh : PP R (bnd (S.2.2.2.2.1 m (I (n : Nat)) v2) (fun u93 r93 => jb_Cm_expression_359 N S () u93)) B) : PP R (jm_Cm_expression N S m (I (n : Nat)) v2) B := by
  unfold jm_Cm_expression jb_Cm_expression_0
  refine l_ck (fun _ => l_ck (fun _ => ?_))
  rw [i_nt2 (show n ≤ 100000 by omega), h, decide_eq_false (show ¬ (I 20 = (1 : Int32)) by decide), br_f, decide_eq_false (show ¬ (I 20 = (2 : Int32)) by decide), br_f, decide_eq_false (show ¬ (I 20 = (3 : Int32)) by decide), br_f, decide_eq_false (show ¬ (I 20 = (4 : Int32)) by decide), br_f, decide_eq_false (show ¬ (I 20 = (5 : Int32)) by decide), br_f, decide_eq_false (show ¬ (I 20 = (6 : Int32)) by decide), br_f, decide_eq_false (show ¬ (I 20 = (7 : Int32)) by decide), br_f, decide_eq_false (show ¬ (I 20 = (8 : Int32)) by decide), br_f, decide_eq_false (show ¬ (I 20 = (9 : Int32)) by decide), br_f, decide_eq_false (show ¬ (I 20 = (10 : Int32)) by decide), br_f, decide_eq_false (show ¬ (I 20 = (11 : Int32)) by decide), br_f, decide_eq_false (show ¬ (I 20 = (12 : Int32)) by decide), br_f, decide_eq_false (show ¬ (I 20 = (13 : Int32)) by decide), br_f, decide_eq_false (show ¬ (I 20 = (14 : Int32)) by decide), br_f, decide_eq_false (show ¬ (I 20 = (15 : Int32)) by decide), br_f, decide_eq_false (show ¬ (I 20 = (16 : Int32)) by decide), br_f, decide_eq_false (show ¬ (I 20 = (17 : Int32)) by decide), br_f, decide_eq_false (show ¬ (I 20 = (18 : Int32)) by decide), br_f, decide_eq_false (show ¬ (I 20 = (19 : Int32)) by decide), br_f, decide_eq_true (show (I 20 = (20 : Int32)) by decide), br_t]
  exact hh
theorem exd_21 (hn : n ≤ 8015) (h : m.2.2.1 16 n = I 21) (hh : PP R (bnd (S.2.2.2.2.1 m (I (n : Nat)) v2) (fun u94 r94 => jb_Cm_expression_359 N S () u94)) B) : PP R (jm_Cm_expression N S m (I (n : Nat)) v2) B := by
  unfold jm_Cm_expression jb_Cm_expression_0
  refine l_ck (fun _ => l_ck (fun _ => ?_))
  rw [i_nt2 (show n ≤ 100000 by omega), h, decide_eq_false (show ¬ (I 21 = (1 : Int32)) by decide), br_f, decide_eq_false (show ¬ (I 21 = (2 : Int32)) by decide), br_f, decide_eq_false (show ¬ (I 21 = (3 : Int32)) by decide), br_f, decide_eq_false (show ¬ (I 21 = (4 : Int32)) by decide), br_f, decide_eq_false (show ¬ (I 21 = (5 : Int32)) by decide), br_f, decide_eq_false (show ¬ (I 21 = (6 : Int32)) by decide), br_f, decide_eq_false (show ¬ (I 21 = (7 : Int32)) by decide), br_f, decide_eq_false (show ¬ (I 21 = (8 : Int32)) by decide), br_f, decide_eq_false (show ¬ (I 21 = (9 : Int32)) by decide), br_f, decide_eq_false (show ¬ (I 21 = (10 : Int32)) by decide), br_f, decide_eq_false (show ¬ (I 21 = (11 : Int32)) by decide), br_f, decide_eq_false (show ¬ (I 21 = (12 : Int32)) by decide), br_f, decide_eq_false (show ¬ (I 21 = (13 : Int32)) by decide), br_f, decide_eq_false (show ¬ (I 21 = (14 : Int32)) by decide), br_f, decide_eq_false (show ¬ (I 21 = (15 : Int32)) by decide), br_f, decide_eq_false (show ¬ (I 21 = (16 : Int32)) by decide), br_f, decide_eq_false (show ¬ (I 21 = (17 : Int32)) by decide), br_f, decide_eq_false (show ¬ (I 21 = (18 : Int32)) by decide), br_f, decide_eq_false (show ¬ (I 21 = (19 : Int32)) by decide), br_f, decide_eq_false (show ¬ (I 21 = (20 : Int32)) by decide), br_f, decide_eq_true (show (I 21 = (21 : Int32)) by decide), br_t]
  exact hh
theorem exd_22 (hn : n ≤ 8015) (h : m.2.2.1 16 n = I 22) (hh : PP R (ck (inb (I (n : Nat)) 8016) (bnd (S.2.2.2.2.2.2.2.1 m (m.2.2.1 18 n)) (fun u100 r100 => jb_Cm_expression_359 N S () u100))) B) : PP R (jm_Cm_expression N S m (I (n : Nat)) v2) B := by
  unfold jm_Cm_expression jb_Cm_expression_0
  refine l_ck (fun _ => l_ck (fun _ => ?_))
  rw [i_nt2 (show n ≤ 100000 by omega), h, decide_eq_false (show ¬ (I 22 = (1 : Int32)) by decide), br_f, decide_eq_false (show ¬ (I 22 = (2 : Int32)) by decide), br_f, decide_eq_false (show ¬ (I 22 = (3 : Int32)) by decide), br_f, decide_eq_false (show ¬ (I 22 = (4 : Int32)) by decide), br_f, decide_eq_false (show ¬ (I 22 = (5 : Int32)) by decide), br_f, decide_eq_false (show ¬ (I 22 = (6 : Int32)) by decide), br_f, decide_eq_false (show ¬ (I 22 = (7 : Int32)) by decide), br_f, decide_eq_false (show ¬ (I 22 = (8 : Int32)) by decide), br_f, decide_eq_false (show ¬ (I 22 = (9 : Int32)) by decide), br_f, decide_eq_false (show ¬ (I 22 = (10 : Int32)) by decide), br_f, decide_eq_false (show ¬ (I 22 = (11 : Int32)) by decide), br_f, decide_eq_false (show ¬ (I 22 = (12 : Int32)) by decide), br_f, decide_eq_false (show ¬ (I 22 = (13 : Int32)) by decide), br_f, decide_eq_false (show ¬ (I 22 = (14 : Int32)) by decide), br_f, decide_eq_false (show ¬ (I 22 = (15 : Int32)) by decide), br_f, decide_eq_false (show ¬ (I 22 = (16 : Int32)) by decide), br_f, decide_eq_false (show ¬ (I 22 = (17 : Int32)) by decide), br_f, decide_eq_false (show ¬ (I 22 = (18 : Int32)) by decide), br_f, decide_eq_false (show ¬ (I 22 = (19 : Int32)) by decide), br_f, decide_eq_false (show ¬ (I 22 = (20 : Int32)) by decide), br_f, decide_eq_false (show ¬ (I 22 = (21 : Int32)) by decide), br_f, decide_eq_true (show (I 22 = (22 : Int32)) by decide), br_t]
  exact hh
theorem exd_25 (hn : n ≤ 8015) (h : m.2.2.1 16 n = I 25) (hh : PP R (bnd (S.2.2.2.2.1 m (I (n : Nat)) v2) (fun u101 r101 => jb_Cm_expression_359 N S () u101)) B) : PP R (jm_Cm_expression N S m (I (n : Nat)) v2) B := by
  unfold jm_Cm_expression jb_Cm_expression_0
  refine l_ck (fun _ => l_ck (fun _ => ?_))
  rw [i_nt2 (show n ≤ 100000 by omega), h, decide_eq_false (show ¬ (I 25 = (1 : Int32)) by decide), br_f, decide_eq_false (show ¬ (I 25 = (2 : Int32)) by decide), br_f, decide_eq_false (show ¬ (I 25 = (3 : Int32)) by decide), br_f, decide_eq_false (show ¬ (I 25 = (4 : Int32)) by decide), br_f, decide_eq_false (show ¬ (I 25 = (5 : Int32)) by decide), br_f, decide_eq_false (show ¬ (I 25 = (6 : Int32)) by decide), br_f, decide_eq_false (show ¬ (I 25 = (7 : Int32)) by decide), br_f, decide_eq_false (show ¬ (I 25 = (8 : Int32)) by decide), br_f, decide_eq_false (show ¬ (I 25 = (9 : Int32)) by decide), br_f, decide_eq_false (show ¬ (I 25 = (10 : Int32)) by decide), br_f, decide_eq_false (show ¬ (I 25 = (11 : Int32)) by decide), br_f, decide_eq_false (show ¬ (I 25 = (12 : Int32)) by decide), br_f, decide_eq_false (show ¬ (I 25 = (13 : Int32)) by decide), br_f, decide_eq_false (show ¬ (I 25 = (14 : Int32)) by decide), br_f, decide_eq_false (show ¬ (I 25 = (15 : Int32)) by decide), br_f, decide_eq_false (show ¬ (I 25 = (16 : Int32)) by decide), br_f, decide_eq_false (show ¬ (I 25 = (17 : Int32)) by decide), br_f, decide_eq_false (show ¬ (I 25 = (18 : Int32)) by decide), br_f, decide_eq_false (show ¬ (I 25 = (19 : Int32)) by decide), br_f, decide_eq_false (show ¬ (I 25 = (20 : Int32)) by decide), br_f, decide_eq_false (show ¬ (I 25 = (21 : Int32)) by decide), br_f, decide_eq_false (show ¬ (I 25 = (22 : Int32)) by decide), br_f]
  exact hh
theorem cmd_8 (hn : n ≤ 8015) (h : m.2.2.1 16 n = I 8) (hg : decide (m.1 712 = 0) = !g) (h17 : m.2.2.1 17 n = I (tk : Nat)) (ht : tk ≤ 4002) (hh : g = false → PP R (ck (inb (I (n : Nat)) 8016) (bnd (S.2.2.2.1 m (m.2.2.1 18 n) v2) (fun u42 r42 => bnd (jm_Cm_forget N u42 (m.1 706)) (fun u43 r43 => jb_Cm_compound_455 N S () u43)))) B) : PP R (jm_Cm_compound N S m (I (n : Nat)) v2) B := by
  unfold jm_Cm_compound jb_Cm_compound_0
  refine l_ck (fun _ => ?_)
  rw [i_nt2 (show n ≤ 100000 by omega), h, decide_eq_false (show ¬ (I 8 = (17 : Int32)) by decide), br_f, decide_eq_false (show ¬ (I 8 = (18 : Int32)) by decide), br_f]
  refine l_ck (fun _ => l_ck (fun _ => l_ntg hg h17 ht (fun hf => l_ck (fun _ => ?_))))
  rw [h, decide_eq_true (show (I 8 = (8 : Int32)) by decide), br_t]
  exact hh hf
theorem cmd_9 (hn : n ≤ 8015) (h : m.2.2.1 16 n = I 9) (hg : decide (m.1 712 = 0) = !g) (h17 : m.2.2.1 17 n = I (tk : Nat)) (ht : tk ≤ 4002) (hh : g = false → PP R (ck (inb (I (n : Nat)) 8016) (bnd (S.2.2.2.2.2.2.2.2.2.2.1 m (m.2.2.1 18 n) 0) (fun u49 r49 => ck (inb (I (n : Nat)) 8016) (bnd (S.2.2.1 u49 (u49.2.2.1 19 n) (-1) 15 v2) (fun u55 r55 => bnd (jm_Co_put N u55 37) (fun u57 r57 => bnd (hm_Co_arrive N u57 r55) (fun u60 r60 => jb_Cm_compound_455 N S () u60))))))) B) : PP R (jm_Cm_compound N S m (I (n : Nat)) v2) B := by
  unfold jm_Cm_compound jb_Cm_compound_0
  refine l_ck (fun _ => ?_)
  rw [i_nt2 (show n ≤ 100000 by omega), h, decide_eq_false (show ¬ (I 9 = (17 : Int32)) by decide), br_f, decide_eq_false (show ¬ (I 9 = (18 : Int32)) by decide), br_f]
  refine l_ck (fun _ => l_ck (fun _ => l_ntg hg h17 ht (fun hf => l_ck (fun _ => ?_))))
  rw [h, decide_eq_false (show ¬ (I 9 = (8 : Int32)) by decide), br_f, decide_eq_true (show (I 9 = (9 : Int32)) by decide), br_t]
  exact hh hf
theorem cmd_10 (hn : n ≤ 8015) (h : m.2.2.1 16 n = I 10) (hg : decide (m.1 712 = 0) = !g) (h17 : m.2.2.1 17 n = I (tk : Nat)) (ht : tk ≤ 4002) (hh : g = false → PP R (ck (inb (I (n : Nat)) 8016) (bnd (S.2.2.1 m (m.2.2.1 19 n) (-1) 0 v2) (fun u67 r67 => bnd (jm_Co_put N u67 38) (fun u69 r69 => bnd (hm_Co_arrive N u69 r67) (fun u72 r72 => jb_Cm_compound_455 N S () u72))))) B) : PP R (jm_Cm_compound N S m (I (n : Nat)) v2) B := by
  unfold jm_Cm_compound jb_Cm_compound_0
  refine l_ck (fun _ => ?_)
  rw [i_nt2 (show n ≤ 100000 by omega), h, decide_eq_false (show ¬ (I 10 = (17 : Int32)) by decide), br_f, decide_eq_false (show ¬ (I 10 = (18 : Int32)) by decide), br_f]
  refine l_ck (fun _ => l_ck (fun _ => l_ntg hg h17 ht (fun hf => l_ck (fun _ => ?_))))
  rw [h, decide_eq_false (show ¬ (I 10 = (8 : Int32)) by decide), br_f, decide_eq_false (show ¬ (I 10 = (9 : Int32)) by decide), br_f, decide_eq_true (show (I 10 = (10 : Int32)) by decide), br_t]
  exact hh hf
theorem cmd_11 (hn : n ≤ 8015) (h : m.2.2.1 16 n = I 11) (hg : decide (m.1 712 = 0) = !g) (h17 : m.2.2.1 17 n = I (tk : Nat)) (ht : tk ≤ 4002) (hh : g = false → PP R (bnd (S.2.1 m (I (n : Nat)) v2) (fun u74 r74 => jb_Cm_compound_455 N S () u74)) B) : PP R (jm_Cm_compound N S m (I (n : Nat)) v2) B := by
  unfold jm_Cm_compound jb_Cm_compound_0
  refine l_ck (fun _ => ?_)
  rw [i_nt2 (show n ≤ 100000 by omega), h, decide_eq_false (show ¬ (I 11 = (17 : Int32)) by decide), br_f, decide_eq_false (show ¬ (I 11 = (18 : Int32)) by decide), br_f]
  refine l_ck (fun _ => l_ck (fun _ => l_ntg hg h17 ht (fun hf => l_ck (fun _ => ?_))))
  rw [h, decide_eq_false (show ¬ (I 11 = (8 : Int32)) by decide), br_f, decide_eq_false (show ¬ (I 11 = (9 : Int32)) by decide), br_f, decide_eq_false (show ¬ (I 11 = (10 : Int32)) by decide), br_f, decide_eq_true (show (I 11 = (11 : Int32)) by decide), br_t]
  exact hh hf
theorem cmd_12 (hn : n ≤ 8015) (h : m.2.2.1 16 n = I 12) (hg : decide (m.1 712 = 0) = !g) (h17 : m.2.2.1 17 n = I (tk : Nat)) (ht : tk ≤ 4002) (hh : g = false → PP R (bnd (S.1 m (I (n : Nat))) (fun u75 r75 => jb_Cm_compound_455 N S () u75)) B) : PP R (jm_Cm_compound N S m (I (n : Nat)) v2) B := by
  unfold jm_Cm_compound jb_Cm_compound_0
  refine l_ck (fun _ => ?_)
  rw [i_nt2 (show n ≤ 100000 by omega), h, decide_eq_false (show ¬ (I 12 = (17 : Int32)) by decide), br_f, decide_eq_false (show ¬ (I 12 = (18 : Int32)) by decide), br_f]
  refine l_ck (fun _ => l_ck (fun _ => l_ntg hg h17 ht (fun hf => l_ck (fun _ => ?_))))
  rw [h, decide_eq_false (show ¬ (I 12 = (8 : Int32)) by decide), br_f, decide_eq_false (show ¬ (I 12 = (9 : Int32)) by decide), br_f, decide_eq_false (show ¬ (I 12 = (10 : Int32)) by decide), br_f, decide_eq_false (show ¬ (I 12 = (11 : Int32)) by decide), br_f, decide_eq_true (show (I 12 = (12 : Int32)) by decide), br_t]
  exact hh hf
theorem cmd_13 (hn : n ≤ 8015) (h : m.2.2.1 16 n = I 13) (hg : decide (m.1 712 = 0) = !g) (h17 : m.2.2.1 17 n = I (tk : Nat)) (ht : tk ≤ 4002) (hh : g = false → PP R (bnd (jm_Cm_funOf N m (I (n : Nat))) (fun u76 r76 => jb_Cm_compound_455 N S () u76)) B) : PP R (jm_Cm_compound N S m (I (n : Nat)) v2) B := by
  unfold jm_Cm_compound jb_Cm_compound_0
  refine l_ck (fun _ => ?_)
  rw [i_nt2 (show n ≤ 100000 by omega), h, decide_eq_false (show ¬ (I 13 = (17 : Int32)) by decide), br_f, decide_eq_false (show ¬ (I 13 = (18 : Int32)) by decide), br_f]
  refine l_ck (fun _ => l_ck (fun _ => l_ntg hg h17 ht (fun hf => l_ck (fun _ => ?_))))
  rw [h, decide_eq_false (show ¬ (I 13 = (8 : Int32)) by decide), br_f, decide_eq_false (show ¬ (I 13 = (9 : Int32)) by decide), br_f, decide_eq_false (show ¬ (I 13 = (10 : Int32)) by decide), br_f, decide_eq_false (show ¬ (I 13 = (11 : Int32)) by decide), br_f, decide_eq_false (show ¬ (I 13 = (12 : Int32)) by decide), br_f, decide_eq_true (show (I 13 = (13 : Int32)) by decide), br_t]
  exact hh hf
theorem cmd_19 (hn : n ≤ 8015) (h : m.2.2.1 16 n = I 19) (hg : decide (m.1 712 = 0) = !g) (h17 : m.2.2.1 17 n = I (tk : Nat)) (ht : tk ≤ 4002) (hh : g = false → PP R (bnd (jm_Co_put N m 29) (fun u78 r78 => bnd (jm_Co_hook N u78 0) (fun u81 r81 => ck (inb (I (n : Nat)) 8016) (bnd (S.2.2.2.2.2.2.2.2.2.2.1 u81 (u81.2.2.1 18 n) 0) (fun u88 r88 => bnd (jm_Co_put N u88 30) (fun u90 r90 => bnd (jm_Cm_forget N u90 (m.1 706)) (fun u92 r92 => bnd (hm_Co_arrive N u92 r81) (fun u94 r94 => jb_Cm_compound_455 N S () u94)))))))) B) : PP R (jm_Cm_compound N S m (I (n : Nat)) v2) B := by
  unfold jm_Cm_compound jb_Cm_compound_0
  refine l_ck (fun _ => ?_)
  rw [i_nt2 (show n ≤ 100000 by omega), h, decide_eq_false (show ¬ (I 19 = (17 : Int32)) by decide), br_f, decide_eq_false (show ¬ (I 19 = (18 : Int32)) by decide), br_f]
  refine l_ck (fun _ => l_ck (fun _ => l_ntg hg h17 ht (fun hf => l_ck (fun _ => ?_))))
  rw [h, decide_eq_false (show ¬ (I 19 = (8 : Int32)) by decide), br_f, decide_eq_false (show ¬ (I 19 = (9 : Int32)) by decide), br_f, decide_eq_false (show ¬ (I 19 = (10 : Int32)) by decide), br_f, decide_eq_false (show ¬ (I 19 = (11 : Int32)) by decide), br_f, decide_eq_false (show ¬ (I 19 = (12 : Int32)) by decide), br_f, decide_eq_false (show ¬ (I 19 = (13 : Int32)) by decide), br_f, decide_eq_false (show ¬ (I 19 = (14 : Int32)) by decide), br_f, decide_eq_false (show ¬ (I 19 = (15 : Int32)) by decide), br_f, decide_eq_false (show ¬ (I 19 = (16 : Int32)) by decide), br_f, decide_eq_false (show ¬ (I 19 = (17 : Int32)) by decide), br_f, decide_eq_false (show ¬ (I 19 = (18 : Int32)) by decide), br_f, decide_eq_true (show (I 19 = (19 : Int32)) by decide), br_t]
  exact hh hf
theorem cmd_20 (hn : n ≤ 8015) (h : m.2.2.1 16 n = I 20) (hg : decide (m.1 712 = 0) = !g) (h17 : m.2.2.1 17 n = I (tk : Nat)) (ht : tk ≤ 4002) (hh : g = false → PP R (ck (inb (I (n : Nat)) 8016) (bnd (S.2.2.2.2.2.2.2.2.2.2.1 m (m.2.2.1 19 n) 0) (fun u101 r101 => bnd (jm_Co_put N u101 20) (fun u103 r103 => ck (inb (I (n : Nat)) 8016) (bnd (jr_Cm_pattern N u103 (u103.2.2.1 18 n)) (fun u110 r110 => bnd (jm_Co_put N u110 8) (fun u112 r112 => jb_Cm_compound_455 N S () u112))))))) B) : PP R (jm_Cm_compound N S m (I (n : Nat)) v2) B := by
  unfold jm_Cm_compound jb_Cm_compound_0
  refine l_ck (fun _ => ?_)
  rw [i_nt2 (show n ≤ 100000 by omega), h, decide_eq_false (show ¬ (I 20 = (17 : Int32)) by decide), br_f, decide_eq_false (show ¬ (I 20 = (18 : Int32)) by decide), br_f]
  refine l_ck (fun _ => l_ck (fun _ => l_ntg hg h17 ht (fun hf => l_ck (fun _ => ?_))))
  rw [h, decide_eq_false (show ¬ (I 20 = (8 : Int32)) by decide), br_f, decide_eq_false (show ¬ (I 20 = (9 : Int32)) by decide), br_f, decide_eq_false (show ¬ (I 20 = (10 : Int32)) by decide), br_f, decide_eq_false (show ¬ (I 20 = (11 : Int32)) by decide), br_f, decide_eq_false (show ¬ (I 20 = (12 : Int32)) by decide), br_f, decide_eq_false (show ¬ (I 20 = (13 : Int32)) by decide), br_f, decide_eq_false (show ¬ (I 20 = (14 : Int32)) by decide), br_f, decide_eq_false (show ¬ (I 20 = (15 : Int32)) by decide), br_f, decide_eq_false (show ¬ (I 20 = (16 : Int32)) by decide), br_f, decide_eq_false (show ¬ (I 20 = (17 : Int32)) by decide), br_f, decide_eq_false (show ¬ (I 20 = (18 : Int32)) by decide), br_f, decide_eq_false (show ¬ (I 20 = (19 : Int32)) by decide), br_f, decide_eq_true (show (I 20 = (20 : Int32)) by decide), br_t]
  exact hh hf
theorem cmd_21 (hn : n ≤ 8015) (h : m.2.2.1 16 n = I 21) (hg : decide (m.1 712 = 0) = !g) (h17 : m.2.2.1 17 n = I (tk : Nat)) (ht : tk ≤ 4002) (hh : g = false → PP R (ck (inb (I (n : Nat)) 8016) (bnd (S.2.2.2.2.2.2.2.2.2.2.1 m (m.2.2.1 18 n) 0) (fun u119 r119 => ck (inb (I (n : Nat)) 8016) (bnd (S.2.2.2.2.2.2.2.2.2.2.1 u119 (u119.2.2.1 19 n) 0) (fun u125 r125 => bnd (jm_Co_put N u125 17) (fun u127 r127 => jb_Cm_compound_455 N S () u127)))))) B) : PP R (jm_Cm_compound N S m (I (n : Nat)) v2) B := by
  unfold jm_Cm_compound jb_Cm_compound_0
  refine l_ck (fun _ => ?_)
  rw [i_nt2 (show n ≤ 100000 by omega), h, decide_eq_false (show ¬ (I 21 = (17 : Int32)) by decide), br_f, decide_eq_false (show ¬ (I 21 = (18 : Int32)) by decide), br_f]
  refine l_ck (fun _ => l_ck (fun _ => l_ntg hg h17 ht (fun hf => l_ck (fun _ => ?_))))
  rw [h, decide_eq_false (show ¬ (I 21 = (8 : Int32)) by decide), br_f, decide_eq_false (show ¬ (I 21 = (9 : Int32)) by decide), br_f, decide_eq_false (show ¬ (I 21 = (10 : Int32)) by decide), br_f, decide_eq_false (show ¬ (I 21 = (11 : Int32)) by decide), br_f, decide_eq_false (show ¬ (I 21 = (12 : Int32)) by decide), br_f, decide_eq_false (show ¬ (I 21 = (13 : Int32)) by decide), br_f, decide_eq_false (show ¬ (I 21 = (14 : Int32)) by decide), br_f, decide_eq_false (show ¬ (I 21 = (15 : Int32)) by decide), br_f, decide_eq_false (show ¬ (I 21 = (16 : Int32)) by decide), br_f, decide_eq_false (show ¬ (I 21 = (17 : Int32)) by decide), br_f, decide_eq_false (show ¬ (I 21 = (18 : Int32)) by decide), br_f, decide_eq_false (show ¬ (I 21 = (19 : Int32)) by decide), br_f, decide_eq_false (show ¬ (I 21 = (20 : Int32)) by decide), br_f, decide_eq_true (show (I 21 = (21 : Int32)) by decide), br_t]
  exact hh hf
theorem cmd_17 (hn : n ≤ 8015) (h : m.2.2.1 16 n = I 17) (hh : PP R (jb_Cm_compound_33 N S () m (I (n : Nat))) B) : PP R (jm_Cm_compound N S m (I (n : Nat)) v2) B := by
  unfold jm_Cm_compound jb_Cm_compound_0
  refine l_ck (fun _ => ?_)
  rw [i_nt2 (show n ≤ 100000 by omega), h, decide_eq_true (show (I 17 = (17 : Int32)) by decide), br_t]
  exact hh
theorem cmd_18 (hn : n ≤ 8015) (h : m.2.2.1 16 n = I 18) (hh : PP R (jb_Cm_compound_33 N S () m (I (n : Nat))) B) : PP R (jm_Cm_compound N S m (I (n : Nat)) v2) B := by
  unfold jm_Cm_compound jb_Cm_compound_0
  refine l_ck (fun _ => ?_)
  rw [i_nt2 (show n ≤ 100000 by omega), h, decide_eq_false (show ¬ (I 18 = (17 : Int32)) by decide), br_f, decide_eq_true (show (I 18 = (18 : Int32)) by decide), br_t]
  exact l_ck (fun _ => hh)
end
