set_option maxRecDepth 100000
def NXT (m : MS) : List Nat → Prop
  | [] => True
  | ν :: l => m.2.2.1 21 ν = I ((l.headD 0 : Nat) : Int) ∧ (1 ≤ ν ∧ ν ≤ 8015) ∧ NXT m l
section
variable {m v u m1 m2 m3 mi : MS} {K nm W Nk : Nat → Nat} {sc sc1 sc2 sc3 t t2 t3 : SCT} {e0 e2 e3 : List Nat × List Nat × Nat} {s x y N i f tok cm cm2 c1 c2 p p2 q q1 q2 q3 q4 q5 q6 n1 n2 n3 ν μ π lo li ni X X1 X2 k : Nat} {gd Zf Rf R1 R2 Z1 Z2 own : Bool} {g : Nat → Int32} {B1 B2 BC : MS → Prop} {a b c e f : Int32} {l lp lg lb : List Nat} {S : SF_Cm_fun}
theorem len_p : ∀ {l : List Nat}, NXT m l → ∀ (M k : Nat), PK (fun v r => v = m ∧ r = I ((k + l.length : Nat) : Int)) (hg_Tr_length N M m (I (k : Nat)) (I ((l.headD 0 : Nat) : Int)))
  | _, _, 0, _ => pk_none
  | [], _, M + 1, k => by
    show PK _ (hb_Tr_length_4 N (hg_Tr_length N M) m (I (k : Nat)) 0)
    unfold hb_Tr_length_4
    rw [show decide ((0 : Int32) = 0) = true from rfl, br_tq]
    exact pk_some ⟨rfl, rfl⟩
  | ν :: l, ⟨h1, h2, h3⟩, M + 1, k => by
    show PK _ (hb_Tr_length_4 N (hg_Tr_length N M) m (I (k : Nat)) (I (ν : Nat)))
    unfold hb_Tr_length_4
    rw [decide_eq_false (p := I (ν : Nat) = 0) (fun z => by have := (I_eq (x := (ν : Nat)) (y := 0) (by omega) (by omega) (by omega) (by omega)).mp z; omega), br_fq, tnI (n := ν) rfl (by omega), h1, i_suc]
    refine pk_ck (fun _ => pk_mo (len_p h3 M (k + 1)) (fun v r q => ⟨q.1, ?_⟩))
    rw [q.2, List.length_cons]
    congr 1
    omega
theorem length_p (h : NXT m l) : PK (fun v r => v = m ∧ r = I ((l.length : Nat) : Int)) (hm_Tr_length N m (I ((l.headD 0 : Nat) : Int))) := by
  have := len_p (N := N) h N 0
  rw [Nat.zero_add] at this
  exact this
theorem ERW_nxt (hl : n2 ≤ 8015) : ∀ {l : List Nat} {p p2 : Nat} {sc sc2 : SCT} {X : Nat} {Rf Zf : Bool} {BC : MS → Prop}, ERW N K nm gd m2 lo n2 W l p p2 sc sc2 X Rf Zf BC → NXT m2 l
  | [], _, _, _, _, _, _, _, _, _ => trivial
  | ν :: l, p, p2, sc, sc2, X, Rf, Zf, BC, ⟨q, q2, sc1, X1, X2, R1, R2, Z1, Z2, B1, B2, h1, _, _, h3, h4, h2, h6, _⟩ => ⟨h4, ⟨h3.1, by omega⟩, ERW_nxt hl h6⟩
theorem PRW_nxt (hl : n2 ≤ 8015) : ∀ {l : List Nat} {p p2 : Nat} {sc sc2 : SCT} {X : Nat}, PRW N K nm m2 lo n2 own W l p p2 sc sc2 X → NXT m2 l
  | [], _, _, _, _, _, _ => trivial
  | ν :: l, p, p2, sc, sc2, X, ⟨q, q2, sc1, X1, X2, h1, _, _, h3, h4, h2, h6, _⟩ => ⟨h4, ⟨h3.1, by omega⟩, PRW_nxt hl h6⟩
theorem NXT_k : ∀ {l : List Nat}, NXT m l → (∀ ν, ν ∈ l → v.2.2.1 21 ν = m.2.2.1 21 ν) → NXT v l
  | [], _, _ => trivial
  | ν :: l, ⟨h1, h2, h3⟩, k => ⟨by rw [k ν (List.mem_cons_self ..)]; exact h1, h2, NXT_k h3 (fun x hx => k x (List.mem_cons_of_mem _ hx))⟩
theorem cla_p {d : Nat} {cnt line : Int32} (hT : TRB N K nm true mi li ni π q q1 sc sc1 X1 W R1 Z1 B1) (hB : BDB N K nm mi li ni π q1 q2 sc1 (e3 :: t3) X2 W R2 Z2 B2) (hq : q ≤ q1 ∧ q1 ≤ q2) (hπ : π ≤ 8015) (kx : KPX li ni π mi m3) (hc : decide (cnt < 0) = false) (h1 : tot sc1 ≤ tot sc + (q1 - q) ∧ sc1.length = sc.length ∧ X1 ≤ 1400) (s2 : STB B2) {b : Nat} (hb : b ≤ e3.1.length ∧ tot t3 + b = tot sc) (cp : CPR nm false q q2 sc cm m3) : PK (fun u (_ : Unit) => CPO K nm q q2 sc (cutS b (e3 :: t3)) (max X1 X2) W (R1 || R2) (Z1 || Z2) (fun m => B1 m ∨ B2 m) cm m3 u) ((hrc_Cm_fun N d).2.2.2.2.2.2.2.2.2.2.2.2 m3 (I (π : Nat)) cnt line) := by
  cases d with
  | zero => exact pk_none
  | succ d =>
    show PK _ (hm_Cm_clause N (hrc_Cm_fun N d) m3 (I (π : Nat)) cnt line)
    unfold hm_Cm_clause hb_Cm_clause_0
    have c706 := cp.2.1.2.2.1
    refine cpo_bnd (hT d m3 cm cnt hc kx (CPR_in cp (by omega))) hq s2 h1.2.1 (fun v r9 hv => ?_) (fun v r9 hv hn => ?_)
    · obtain ⟨hS0, hS1, hS2, hS3, hS4, hS5, hS6, hS7, hS8, hS9, hS10, hS11, hS12⟩ := yz_hrc_Cm_fun (u0 := v) (N := N) d
      repeat' (first | with_reducible assumption | with_reducible refine Kz_br ?_ ?_ | with_reducible refine Kz_bnd ?_ (fun _ _ _ => ?_) | with_reducible refine Kz_ck ?_ | with_reducible refine Kz_ltm ?_ (fun _ _ => ?_) | with_reducible refine Kz_some ?_ | with_reducible exact yz_hm_Cm_notInGuard (by assumption) | with_reducible exact yz_hr_Cm_pattern (by assumption) | with_reducible exact yz_hm_Cm_forget (by assumption) | with_reducible exact yz_hm_Co_arrive (by assumption) | with_reducible exact yz_hm_Cm_funOf (by assumption) | with_reducible exact yz_hm_Co_hook (by assumption) | with_reducible exact yz_hm_Co_put (by assumption) | with_reducible exact yz_hm_Cm_term (by assumption) | with_reducible exact yz_hm_Cm_string (by assumption) | with_reducible exact yz_hm_Co_seek (by assumption) | with_reducible exact yz_hm_Cm_predefinedOf (by assumption) | with_reducible exact yz_hm_Cm_fault (by assumption) | with_reducible exact yz_hm_Cm_joining (by assumption) | with_reducible exact yz_hm_Cm_hold (by assumption) | with_reducible exact yz_hm_Co_set (by assumption) | with_reducible exact yz_hm_Tr_length (by assumption) | with_reducible exact hS0 _ _ (by assumption) | with_reducible exact hS1 _ _ _ (by assumption) | with_reducible exact hS2 _ _ _ _ _ (by assumption) | with_reducible exact hS3 _ _ _ (by assumption) | with_reducible exact hS4 _ _ _ (by assumption) | with_reducible exact hS5 _ _ _ (by assumption) | with_reducible exact hS6 _ _ _ (by assumption) | with_reducible exact hS7 _ _ (by assumption) | with_reducible exact hS8 _ _ (by assumption) | with_reducible exact hS9 _ _ (by assumption) | with_reducible exact hS10 _ _ _ (by assumption) | with_reducible exact hS11 _ _ _ (by assumption) | with_reducible exact hS12 _ _ _ _ (by assumption) | with_reducible exact yz_hg_Cm_apply hS0 hS1 hS2 hS3 hS4 hS5 hS6 hS7 hS8 hS9 hS10 hS11 hS12 _ _ _ _ _ (by assumption) | with_reducible exact yz_hg_Cm_row hS0 hS1 hS2 hS3 hS4 hS5 hS6 hS7 hS8 hS9 hS10 hS11 hS12 _ _ _ (by assumption) | with_reducible exact yz_hg_Cm_signs hS0 hS1 hS2 hS3 hS4 hS5 hS6 hS7 hS8 hS9 hS10 hS11 hS12 _ _ _ _ _ _ _ (by assumption) | with_reducible exact yz_hg_Cm_body hS0 hS1 hS2 hS3 hS4 hS5 hS6 hS7 hS8 hS9 hS10 hS11 hS12 _ _ _ _ (by assumption) | with_reducible exact yz_hg_Cm_parts hS0 hS1 hS2 hS3 hS4 hS5 hS6 hS7 hS8 hS9 hS10 hS11 hS12 _ _ _ _ _ _ _ (by assumption) | with_reducible exact (yz_hg_Cm_tries hS0 hS1 hS2 hS3 hS4 hS5 hS6 hS7 hS8 hS9 hS10 hS11 hS12 _).1 _ _ _ _ _ (by assumption) | with_reducible exact (yz_hg_Cm_tries hS0 hS1 hS2 hS3 hS4 hS5 hS6 hS7 hS8 hS9 hS10 hS11 hS12 _).2 _ _ _ _ (by assumption) | with_reducible refine Kz_ltv (fun _ => ?_) | with_reducible refine Kz_I ?_ (by decide) | with_reducible refine Kz_A ?_ (by decide))
    · refine pk_bnd (fun w1 x1 y1 => pk_bnd (fun w2 x2 y2 => pk_bnd (fun w3 x3 y3 => pk_ck (fun _ => ?_))))
      have f1 := yu_hm_Co_put (u0 := v) Ku_rf w1 x1 y1
      have f2 := yu_hm_Co_put (u0 := v) f1 w2 x2 y2
      have f3 := yu_hm_Co_put (u0 := v) f2 w3 x3 y3
      have hn3 := NPE_u hn f3
      have fr := hn3.2.2.2.2.2.2.2.2
      have cp2 : CPR nm false q1 q2 sc1 (max cm X1) w3 := CPR_2 (p := q) (p2 := q2) (q := q1) cp hn3 h1.2.1 h1.2.2 (by have := cp.2.2.2.2.2.2; omega)
      rw [tnI (n := π) rfl (by omega)]
      refine pk_bnd (pk_mo (hB d w3 (max cm X1) 1 (KPX_f kx fr) cp2) (fun w4 _ q4 => pk_bnd (fun w5 x5 y5 => pk_lt (pk_bnd (fun w6 x6 y6 => pk_some ?_)))))
      have q5 := CPO_v f3 s2 (CPO_u q4 (yu_hm_Co_put (u0 := w4) Ku_rf w5 x5 y5))
      have f6 := yu_hm_Co_arrive (u0 := upI w5 706 (m3.1 706)) Ku_rf w6 x6 y6
      refine CPO_u (v := upI w5 706 (m3.1 706)) ?_ f6
      rcases q5 with ⟨h1, h2, h3⟩ | ⟨h1, h2⟩
      · exact Or.inl ⟨h1, by rw [upI_ne (by decide)]; exact h2, ⟨fun k hk => by rw [upI_ne (by omega)]; exact h3.1 k hk, h3.2⟩⟩
      · exact Or.inr ⟨h1, NPE_cut h2 hb.1 (by rw [hb.2]; exact c706)⟩
theorem put_pk : PK (fun v (_ : Unit) => 1 ≤ F v 441 ∧ ((F u 441 < 24000 ∧ F v 441 = F u 441 + 1 ∧ v.2.2.1 23 = upd (u.2.2.1 23) (F u 441).toNat a) ∨ (24000 ≤ F u 441 ∧ v = u))) (hm_Co_put N u a) := by
  have f := F_r u 441
  have e : u.1 441 = I (F u 441) := I_F
  unfold hm_Co_put hb_Co_put_0 hb_Co_put_30
  rw [e]
  refine pk_br (fun z => pk_some ⟨?_, Or.inr ⟨?_, rfl⟩⟩) (fun z => pk_ck (fun z2 => pk_lt (pk_lt (pk_some ⟨?_, Or.inl ?_⟩))))
  · have := (I_le (x := 24000) (by decide) (by decide) f.1 f.2).mp (of_decide_eq_true z); omega
  · exact (I_le (x := 24000) (by decide) (by decide) f.1 f.2).mp (of_decide_eq_true z)
  all_goals
    have z3 := (I_inb f.1 f.2).mp z2
    have tn : (I (F u 441)).toNatClampNeg = (F u 441).toNat := tnI (n := (F u 441).toNat) (by rw [Int.toNat_of_nonneg z3.1]) (by omega)
    have e4 : F (upI (upA u 23 (upd (u.2.2.1 23) (I (F u 441)).toNatClampNeg a)) 441 (u.1 441 + 1)) 441 = F u 441 + 1 := by
      show ((upI (upA u 23 (upd (u.2.2.1 23) (I (F u 441)).toNatClampNeg a)) 441 (u.1 441 + 1)).1 441).toInt = F u 441 + 1
      rw [upI_at, e, lit1q, I_add, I_ti (by omega) (by omega)]
  · show 1 ≤ F (upI (upA u 23 (upd (u.2.2.1 23) (I (F u 441)).toNatClampNeg a)) 441 (u.1 441 + 1)) 441
    omega
  · refine ⟨by omega, e4, ?_⟩
    show (if 23 = 23 then upd (u.2.2.1 23) (I (F u 441)).toNatClampNeg a else u.2.2.1 23) = _
    rw [if_pos rfl, tn]
end
