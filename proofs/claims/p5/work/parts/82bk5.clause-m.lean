section
set_option maxRecDepth 100000
def NXT (m : MS) : List Nat → Prop
  | [] => True
  | ν :: l => m.2.2.1 21 ν = I ((l.headD 0 : Nat) : Int) ∧ (1 ≤ ν ∧ ν ≤ 8015) ∧ NXT m l
section
variable {m v u m1 m2 m3 mi : MS} {K nm W Nk : Nat → Nat} {sc sc1 sc2 sc3 t t2 t3 : SCT} {e0 e2 e3 : List Nat × List Nat × Nat} {s x y N i f tok cm cm2 c1 c2 p p2 q q1 q2 q3 q4 q5 q6 n1 n2 n3 ν μ π lo li ni X X1 X2 k : Nat} {gd Zf Rf R1 R2 Z1 Z2 own : Bool} {g : Nat → Int32} {B1 B2 BC : MS → Prop} {a b c e f : Int32} {l lp lg lb : List Nat} {S : SF_Cm_fun}
theorem len_p : ∀ {l : List Nat}, NXT m l → ∀ (M k : Nat), PK (fun v r => v = m ∧ r = I ((k + l.length : Nat) : Int)) (hg_Tr_length N M m (I (k : Nat)) (I ((l.headD 0 : Nat) : Int)))
  | _, _, 0, _ => pk_none
  | [], _, M + 1, k => by
    show PK _ (hb_Tr_length_4 N (hg_Tr_length N M) m (I (k : Nat)) 0)
    unfold hb_Tr_length_4
    rw [show decide ((0 : Int32) = 0) = true from rfl, br_tq]
    exact pk_some ⟨rfl, rfl⟩
  | ν :: l, ⟨h1, h2, h3⟩, M + 1, k => by
    show PK _ (hb_Tr_length_4 N (hg_Tr_length N M) m (I (k : Nat)) (I (ν : Nat)))
    unfold hb_Tr_length_4
    rw [decide_eq_false (p := I (ν : Nat) = 0) (fun z => by have := (I_eq (x := (ν : Nat)) (y := 0) (by omega) (by omega) (by omega) (by omega)).mp z; omega), br_fq, tnI (n := ν) rfl (by omega), h1, i_suc]
    refine pk_ck (fun _ => pk_mo (len_p h3 M (k + 1)) (fun v r q => ⟨q.1, ?_⟩))
    rw [q.2, List.length_cons]
    congr 1
    omega
theorem length_p (h : NXT m l) : PK (fun v r => v = m ∧ r = I ((l.length : Nat) : Int)) (hm_Tr_length N m (I ((l.headD 0 : Nat) : Int))) := by
  have := len_p (N := N) h N 0
  rw [Nat.zero_add] at this
  exact this
theorem ERW_nxt (hl : n2 ≤ 8015) : ∀ {l : List Nat} {p p2 : Nat} {sc sc2 : SCT} {X : Nat} {Rf Zf : Bool} {BC : MS → Prop}, ERW N K nm gd m2 lo n2 W l p p2 sc sc2 X Rf Zf BC → NXT m2 l
  | [], _, _, _, _, _, _, _, _, _ => trivial
  | ν :: l, p, p2, sc, sc2, X, Rf, Zf, BC, ⟨q, q2, sc1, X1, X2, R1, R2, Z1, Z2, B1, B2, h1, _, _, h3, h4, h2, h6, _⟩ => ⟨h4, ⟨h3.1, by omega⟩, ERW_nxt hl h6⟩
theorem PRW_nxt (hl : n2 ≤ 8015) : ∀ {l : List Nat} {p p2 : Nat} {sc sc2 : SCT} {X : Nat}, PRW N K nm m2 lo n2 own W l p p2 sc sc2 X → NXT m2 l
  | [], _, _, _, _, _, _ => trivial
  | ν :: l, p, p2, sc, sc2, X, ⟨q, q2, sc1, X1, X2, h1, _, _, h3, h4, h2, h6, _⟩ => ⟨h4, ⟨h3.1, by omega⟩, PRW_nxt hl h6⟩
theorem NXT_k : ∀ {l : List Nat}, NXT m l → (∀ ν, ν ∈ l → v.2.2.1 21 ν = m.2.2.1 21 ν) → NXT v l
  | [], _, _ => trivial
  | ν :: l, ⟨h1, h2, h3⟩, k => ⟨by rw [k ν (List.mem_cons_self ..)]; exact h1, h2, NXT_k h3 (fun x hx => k x (List.mem_cons_of_mem _ hx))⟩
theorem cla_p {d : Nat} {cnt line : Int32} (hT : TRB N K nm true mi li ni π q q1 sc sc1 X1 W R1 Z1 B1) (hB : BDB N K nm mi li ni π q1 q2 sc1 (e3 :: t3) X2 W R2 Z2 B2) (hq : q ≤ q1 ∧ q1 ≤ q2) (hπ : π ≤ 8015) (kx : KPX li ni π mi m3) (hc : decide (cnt < 0) = false) (h1 : tot sc1 ≤ tot sc + (q1 - q) ∧ sc1.length = sc.length ∧ X1 ≤ 1400) (s2 : STB B2) {b : Nat} (hb : b ≤ e3.1.length ∧ tot t3 + b = tot sc) (cp : CPR nm false q q2 sc cm m3) : PK (fun u (_ : Unit) => CPO K nm q q2 sc (cutS b (e3 :: t3)) (max X1 X2) W (R1 || R2) (Z1 || Z2) (fun m => B1 m ∨ B2 m) cm m3 u) ((hrc_Cm_fun N d).2.2.2.2.2.2.2.2.2.2.2.2 m3 (I (π : Nat)) cnt line) := by
  cases d with
  | zero => exact pk_none
  | succ d =>
    show PK _ (hm_Cm_clause N (hrc_Cm_fun N d) m3 (I (π : Nat)) cnt line)
    unfold hm_Cm_clause hb_Cm_clause_0
    have c706 := cp.2.1.2.2.1
    refine cpo_bnd (hT d m3 cm cnt hc kx (CPR_in cp (by omega))) hq s2 h1.2.1 (fun v r9 hv => ?_) (fun v r9 hv hn => ?_)
    · obtain ⟨hS0, hS1, hS2, hS3, hS4, hS5, hS6, hS7, hS8, hS9, hS10, hS11, hS12⟩ := yz_hrc_Cm_fun (u0 := v) (N := N) d
      repeat' (first | with_reducible assumption | with_reducible refine Kz_br ?_ ?_ | with_reducible refine Kz_bnd ?_ (fun _ _ _ => ?_) | with_reducible refine Kz_ck ?_ | with_reducible refine Kz_ltm ?_ (fun _ _ => ?_) | with_reducible refine Kz_some ?_ | with_reducible exact yz_hm_Cm_notInGuard (by assumption) | with_reducible exact yz_hr_Cm_pattern (by assumption) | with_reducible exact yz_hm_Cm_forget (by assumption) | with_reducible exact yz_hm_Co_arrive (by assumption) | with_reducible exact yz_hm_Cm_funOf (by assumption) | with_reducible exact yz_hm_Co_hook (by assumption) | with_reducible exact yz_hm_Co_put (by assumption) | with_reducible exact yz_hm_Cm_term (by assumption) | with_reducible exact yz_hm_Cm_string (by assumption) | with_reducible exact yz_hm_Co_seek (by assumption) | with_reducible exact yz_hm_Cm_predefinedOf (by assumption) | with_reducible exact yz_hm_Cm_fault (by assumption) | with_reducible exact yz_hm_Cm_joining (by assumption) | with_reducible exact yz_hm_Cm_hold (by assumption) | with_reducible exact yz_hm_Co_set (by assumption) | with_reducible exact yz_hm_Tr_length (by assumption) | with_reducible exact hS0 _ _ (by assumption) | with_reducible exact hS1 _ _ _ (by assumption) | with_reducible exact hS2 _ _ _ _ _ (by assumption) | with_reducible exact hS3 _ _ _ (by assumption) | with_reducible exact hS4 _ _ _ (by assumption) | with_reducible exact hS5 _ _ _ (by assumption) | with_reducible exact hS6 _ _ _ (by assumption) | with_reducible exact hS7 _ _ (by assumption) | with_reducible exact hS8 _ _ (by assumption) | with_reducible exact hS9 _ _ (by assumption) | with_reducible exact hS10 _ _ _ (by assumption) | with_reducible exact hS11 _ _ _ (by assumption) | with_reducible exact hS12 _ _ _ _ (by assumption) | with_reducible exact yz_hg_Cm_apply hS0 hS1 hS2 hS3 hS4 hS5 hS6 hS7 hS8 hS9 hS10 hS11 hS12 _ _ _ _ _ (by assumption) | with_reducible exact yz_hg_Cm_row hS0 hS1 hS2 hS3 hS4 hS5 hS6 hS7 hS8 hS9 hS10 hS11 hS12 _ _ _ (by assumption) | with_reducible exact yz_hg_Cm_signs hS0 hS1 hS2 hS3 hS4 hS5 hS6 hS7 hS8 hS9 hS10 hS11 hS12 _ _ _ _ _ _ _ (by assumption) | with_reducible exact yz_hg_Cm_body hS0 hS1 hS2 hS3 hS4 hS5 hS6 hS7 hS8 hS9 hS10 hS11 hS12 _ _ _ _ (by assumption) | with_reducible exact yz_hg_Cm_parts hS0 hS1 hS2 hS3 hS4 hS5 hS6 hS7 hS8 hS9 hS10 hS11 hS12 _ _ _ _ _ _ _ (by assumption) | with_reducible exact (yz_hg_Cm_tries hS0 hS1 hS2 hS3 hS4 hS5 hS6 hS7 hS8 hS9 hS10 hS11 hS12 _).1 _ _ _ _ _ (by assumption) | with_reducible exact (yz_hg_Cm_tries hS0 hS1 hS2 hS3 hS4 hS5 hS6 hS7 hS8 hS9 hS10 hS11 hS12 _).2 _ _ _ _ (by assumption) | with_reducible refine Kz_ltv (fun _ => ?_) | with_reducible refine Kz_I ?_ (by decide) | with_reducible refine Kz_A ?_ (by decide))
    · refine pk_bnd (fun w1 x1 y1 => pk_bnd (fun w2 x2 y2 => pk_bnd (fun w3 x3 y3 => pk_ck (fun _ => ?_))))
      have f1 := yu_hm_Co_put (u0 := v) Ku_rf w1 x1 y1
      have f2 := yu_hm_Co_put (u0 := v) f1 w2 x2 y2
      have f3 := yu_hm_Co_put (u0 := v) f2 w3 x3 y3
      have hn3 := NPE_u hn f3
      have fr := hn3.2.2.2.2.2.2.2.2
      have cp2 : CPR nm false q1 q2 sc1 (max cm X1) w3 := CPR_2 (p := q) (p2 := q2) (q := q1) cp hn3 h1.2.1 h1.2.2 (by have := cp.2.2.2.2.2.2; omega)
      rw [tnI (n := π) rfl (by omega)]
      refine pk_bnd (pk_mo (hB d w3 (max cm X1) 1 (KPX_f kx fr) cp2) (fun w4 _ q4 => pk_bnd (fun w5 x5 y5 => pk_ltq (pk_bnd (fun w6 x6 y6 => pk_some ?_)))))
      have q5 := CPO_v f3 s2 (CPO_u q4 (yu_hm_Co_put (u0 := w4) Ku_rf w5 x5 y5))
      have f6 := yu_hm_Co_arrive (u0 := upI w5 706 (m3.1 706)) Ku_rf w6 x6 y6
      refine CPO_u (v := upI w5 706 (m3.1 706)) ?_ f6
      rcases q5 with ⟨h1, h2, h3⟩ | ⟨h1, h2⟩
      · exact Or.inl ⟨h1, by rw [upI_ne (by decide)]; exact h2, ⟨fun k hk => by rw [upI_ne (by omega)]; exact h3.1 k hk, h3.2⟩⟩
      · exact Or.inr ⟨h1, NPE_cut h2 hb.1 (by rw [hb.2]; exact c706)⟩
theorem put_pk : PK (fun v (_ : Unit) => 1 ≤ F v 441 ∧ ((F u 441 < 24000 ∧ F v 441 = F u 441 + 1 ∧ v.2.2.1 23 = upd (u.2.2.1 23) (F u 441).toNat a) ∨ (24000 ≤ F u 441 ∧ v = u))) (hm_Co_put N u a) := by
  have f := F_r u 441
  have e : u.1 441 = I (F u 441) := I_F
  unfold hm_Co_put hb_Co_put_0 hb_Co_put_30
  rw [e]
  refine pk_br (fun z => pk_some ⟨?_, Or.inr ⟨?_, rfl⟩⟩) (fun z => pk_ck (fun z2 => pk_ltq (pk_ltq (pk_some ⟨?_, Or.inl ?_⟩))))
  · have := (I_le (x := 24000) (by decide) (by decide) f.1 f.2).mp (of_decide_eq_true z); omega
  · exact (I_le (x := 24000) (by decide) (by decide) f.1 f.2).mp (of_decide_eq_true z)
  all_goals
    have z3 := (I_inb f.1 f.2).mp z2
    have tn : (I (F u 441)).toNatClampNeg = (F u 441).toNat := tnI (n := (F u 441).toNat) (by rw [Int.toNat_of_nonneg z3.1]) (by omega)
    have e4 : F (upI (upA u 23 (upd (u.2.2.1 23) (I (F u 441)).toNatClampNeg a)) 441 (u.1 441 + 1)) 441 = F u 441 + 1 := by
      show ((upI (upA u 23 (upd (u.2.2.1 23) (I (F u 441)).toNatClampNeg a)) 441 (u.1 441 + 1)).1 441).toInt = F u 441 + 1
      rw [upI_at, e, lit1q, I_add, I_ti (by omega) (by omega)]
  · show 1 ≤ F (upI (upA u 23 (upd (u.2.2.1 23) (I (F u 441)).toNatClampNeg a)) 441 (u.1 441 + 1)) 441
    omega
  · refine ⟨by omega, e4, ?_⟩
    show (if 23 = 23 then upd (u.2.2.1 23) (I (F u 441)).toNatClampNeg a else u.2.2.1 23) = _
    rw [if_pos rfl, tn]
end
end
section
set_option maxRecDepth 100000
def TKN (m : MS) (K nm Nk W : Nat → Nat) (p p2 : Nat) : Prop := ∀ j, p ≤ j → j < p2 → m.2.2.1 6 j = I (K j : Nat) ∧ K j < 46 ∧ (K j = 3 → m.2.2.1 7 j = I (nm (Nk j) : Nat) ∧ Nk j < 1400 ∧ m.2.2.1 42 j = I (W j : Nat) ∧ W j ≤ 32)
def HDL (K Nk W : Nat → Nat) (nm : Nat → Nat) (L p j : Nat) (st : Nat) (v0 v : MS) (d : List Nat) : Prop := Kuc v0 v ∧ v.1 441 = I ((st + d.length : Nat) : Int) ∧ (∀ k x, d[k]? = some x → v.2.2.1 23 (st + k) = I (nm x : Nat)) ∧ d.Nodup ∧ (∀ x, x ∈ d → x < 1400 ∧ ∃ i, (p ≤ i ∧ i < j) ∧ K i = 3 ∧ Nk i = x ∧ W i ≤ L) ∧ (st + d.length < 24000 → ∀ i, p ≤ i → i < j → K i = 3 → W i ≤ L → Nk i ∈ d) ∧ (d ≠ [] → st + d.length ≤ 24000)
section
variable {m v u v0 m1 m2 m3 mi : MS} {K nm W Nk : Nat → Nat} {x y N i j f L st p p2 k : Nat} {d : List Nat} {a b c e : Int32}
theorem at_p (h : k < 24000) : hm_Co_at N u (I (k : Nat)) = some (u, u.2.2.1 23 k) := by
  unfold hm_Co_at hb_Co_at_0 hb_Co_at_11 hb_Co_at_21
  rw [decide_eq_false (p := I (k : Nat) < 0) (fun z => by have := (I_lt (x := (k : Nat)) (y := 0) (by omega) (by omega) (by omega) (by omega)).mp z; omega), br_fq, decide_eq_true (p := I (k : Nat) < 24000) ((I_lt (x := (k : Nat)) (y := 24000) (by omega) (by omega) (by omega) (by omega)).mpr (by omega)), br_tq, show inb (I (k : Nat)) 24000 = true from (I_inb (by omega) (by omega)).mpr ⟨by omega, by omega⟩, tnI (n := k) rfl (by omega)]
  rfl
theorem d_len (h : HDL K Nk W nm L p j st v0 v d) : d.length ≤ 1400 := nd_len 1400 d h.2.2.2.1 (fun x hx => (h.2.2.2.2.1 x hx).1)
theorem hold_lp (hn : NMJ nm) (hst : 1 ≤ st ∧ st ≤ 100000) (hp2 : p2 ≤ 4001) (tk : TKN v0 K nm Nk W p p2) (h709 : v0.1 709 = I (L : Nat)) (hL : L ≤ 40) : ∀ (M : Nat), (∀ (j : Nat) (v : MS) (d : List Nat), p ≤ j → j ≤ p2 → HDL K Nk W nm L p j st v0 v d → PK (fun u r => ∃ d2, HDL K Nk W nm L p p2 st v0 u d2 ∧ r = I ((d2.length : Nat) : Int)) ((hg_Cm_hold N M).1 v (I ((p2 : Nat) - 1 : Int)) (I (st : Nat)) (I (j : Nat)))) ∧ (∀ (j i : Nat) (v : MS) (d : List Nat), p ≤ j → j < p2 → K j = 3 → W j ≤ L → i ≤ d.length → (∀ k, k < i → d[k]? ≠ some (Nk j)) → HDL K Nk W nm L p j st v0 v d → PK (fun u r => ∃ d2, HDL K Nk W nm L p p2 st v0 u d2 ∧ r = I ((d2.length : Nat) : Int)) ((hg_Cm_hold N M).2 v (I ((p2 : Nat) - 1 : Int)) (I (st : Nat)) (I (j : Nat)) (I (nm (Nk j) : Nat)) (I ((st + i : Nat) : Int)))) := by
  intro M
  induction M with
  | zero => exact ⟨fun _ _ _ _ _ _ => pk_none, fun _ _ _ _ _ _ _ _ _ _ _ => pk_none⟩
  | succ M ih =>
    have nx : ∀ (j : Nat) (v : MS) (d : List Nat), p ≤ j → j < p2 → HDL K Nk W nm L p (j + 1) st v0 v d → PK (fun u r => ∃ d2, HDL K Nk W nm L p p2 st v0 u d2 ∧ r = I ((d2.length : Nat) : Int)) (hb_Cm_hold_113 N (hg_Cm_hold N M) v (I ((p2 : Nat) - 1 : Int)) (I (st : Nat)) (I (j : Nat))) := fun j v d h1 h2 hd => by
      unfold hb_Cm_hold_113
      rw [i_suc]
      exact ih.1 (j + 1) v d (by omega) (by omega) hd
    refine ⟨fun j v d h1 h2 hd => ?_, fun j i v d h1 h2 hk hw hi hno hd => ?_⟩
    · show PK _ (hb_Cm_hold_11 N (hg_Cm_hold N M) v (I ((p2 : Nat) - 1 : Int)) (I (st : Nat)) (I (j : Nat)))
      unfold hb_Cm_hold_11
      refine pk_br (fun z => pk_some ?_) (fun z => pk_ck (fun _ => ?_))
      · have z := (I_lt (x := (p2 : Nat) - 1) (y := (j : Nat)) (by omega) (by omega) (by omega) (by omega)).mp (of_decide_eq_true z)
        have e : j = p2 := by omega
        subst e
        refine ⟨d, hd, ?_⟩
        rw [hd.2.1, I_sub]
        congr 1
        omega
      · have z : ¬ ((p2 : Nat) - 1 : Int) < (j : Nat) := fun y => of_decide_eq_false z ((I_lt (x := (p2 : Nat) - 1) (y := (j : Nat)) (by omega) (by omega) (by omega) (by omega)).mpr y)
        have hj : j < p2 := by omega
        obtain ⟨t1, t2, t3⟩ := tk j h1 hj
        have r6 : v.2.2.1 6 j = I (K j : Nat) := by rw [hd.1.2.1 6 (by decide)]; exact t1
        rw [tnI (n := j) rfl (by omega), r6, I_dn (a := K j) (b := 3) (s := 3) (by omega) (by decide) rfl]
        have skip : (K j = 3 → L < W j) → HDL K Nk W nm L p (j + 1) st v0 v d := fun hs => by
          obtain ⟨d1, d2, d3, d4, d5, d6, d7⟩ := hd
          refine ⟨d1, d2, d3, d4, fun x hx => ?_, fun hr i hi1 hi2 hi3 hi4 => ?_, d7⟩
          · obtain ⟨a1, i, a2, a3⟩ := d5 x hx
            exact ⟨a1, i, ⟨a2.1, by omega⟩, a3⟩
          · by_cases hij : i = j
            · rw [hij] at hi3 hi4
              have := hs hi3
              omega
            · exact d6 hr i hi1 (by omega) hi3 hi4
        by_cases k3 : K j = 3
        · rw [decide_eq_true k3, br_tq]
          obtain ⟨t4, t5, t6, t7⟩ := t3 k3
          have r42 : v.2.2.1 42 j = I (W j : Nat) := by rw [hd.1.2.1 42 (by decide)]; exact t6
          have r7 : v.2.2.1 7 j = I (nm (Nk j) : Nat) := by rw [hd.1.2.1 7 (by decide)]; exact t4
          rw [r42, r7, hd.1.1 709 (by decide), h709]
          refine pk_ck (fun _ => pk_br (fun z => ?_) (fun z => pk_ck (fun _ => ?_)))
          · have z := (I_lt (x := (L : Nat)) (y := (W j : Nat)) (by omega) (by omega) (by omega) (by omega)).mp (of_decide_eq_true z)
            exact nx j v d h1 hj (skip (fun _ => by omega))
          · have z : ¬ ((L : Nat) : Int) < (W j : Nat) := fun y => of_decide_eq_false z ((I_lt (x := (L : Nat)) (y := (W j : Nat)) (by omega) (by omega) (by omega) (by omega)).mpr y)
            have := ih.2 j 0 v d h1 hj k3 (by omega) (Nat.zero_le _) (fun k hk => absurd hk (by omega)) hd
            exact this
        · rw [decide_eq_false k3, br_fq]
          exact nx j v d h1 hj (skip (fun z => absurd z k3))
    · show PK _ (hb_Cm_hold_60 N (hg_Cm_hold N M) v (I ((p2 : Nat) - 1 : Int)) (I (st : Nat)) (I (j : Nat)) (I (nm (Nk j) : Nat)) (I ((st + i : Nat) : Int)))
      obtain ⟨t1, t2, t3⟩ := tk j h1 h2
      obtain ⟨t4, t5, t6, t7⟩ := t3 hk
      have dl := d_len hd
      have hd0 := hd
      obtain ⟨d1, d2, d3, d4, d5, d6, d7⟩ := hd0
      have fnd1 : Nk j ∈ d → HDL K Nk W nm L p (j + 1) st v0 v d := fun hm => by
        refine ⟨d1, d2, d3, d4, fun x hx => ?_, fun hr i hi1 hi2 hi3 hi4 => ?_, d7⟩
        · obtain ⟨a1, i, a2, a3⟩ := d5 x hx
          exact ⟨a1, i, ⟨a2.1, by omega⟩, a3⟩
        · by_cases hij : i = j
          · rw [hij]; exact hm
          · exact d6 hr i hi1 (by omega) hi3 hi4
      unfold hb_Cm_hold_60
      rw [d2]
      refine pk_br (fun z => ?_) (fun z => ?_)
      · have z := (I_le (x := (st + d.length : Nat)) (y := (st + i : Nat)) (by omega) (by omega) (by omega) (by omega)).mp (of_decide_eq_true z)
        have ei : i = d.length := by omega
        subst ei
        have nin : Nk j ∉ d := fun hm => by
          obtain ⟨k, hk1, hk2⟩ := List.getElem_of_mem hm
          exact hno k hk1 (by rw [List.getElem?_eq_getElem hk1, hk2])
        unfold hb_Cm_hold_92
        rw [d2, decide_eq_true (p := I ((st + d.length : Nat) : Int) = I ((st + d.length : Nat) : Int)) rfl, br_tq]
        refine pk_bnd (fun w r9 x9 => ?_)
        have fu : Kuc v0 w := yu_hm_Co_put (u0 := v0) d1 w r9 x9
        have fe : F v 441 = ((st + d.length : Nat) : Int) := by
          unfold F
          rw [d2, I_ti (by omega) (by omega)]
        obtain ⟨p1, p2'⟩ := put_pk (u := v) (N := N) w r9 x9
        rw [fe] at p2'
        rcases p2' with ⟨pa, pb, pc⟩ | ⟨pa, pb⟩
        · refine nx j w (d ++ [Nk j]) h1 h2 ⟨fu, ?_, fun k x hx => ?_, ?_, fun x hx => ?_, fun hr i hi1 hi2 hi3 hi4 => ?_, fun _ => ?_⟩
          · rw [I_F (k := 441), pb, List.length_append, List.length_singleton]
            congr 1
          · rw [pc, Int.toNat_natCast]
            by_cases hkd : k < d.length
            · rw [List.getElem?_append_left hkd] at hx
              rw [upd_no (by omega)]
              exact d3 k x hx
            · rw [List.getElem?_append_right (by omega)] at hx
              have e0 : k - d.length = 0 := by
                cases hkk : k - d.length with
                | zero => rfl
                | succ n => rw [hkk] at hx; cases hx
              rw [e0] at hx
              injection hx with hx
              rw [show k = d.length by omega, upd_at, hx]
          · refine List.nodup_append.mpr ⟨d4, List.nodup_cons.mpr ⟨List.not_mem_nil, List.nodup_nil⟩, fun x hx y hy => ?_⟩
            rw [List.mem_singleton] at hy
            rw [hy]
            exact fun z => nin (z ▸ hx)
          · rcases List.mem_append.mp hx with hx | hx
            · obtain ⟨a1, i, a2, a3⟩ := d5 x hx
              exact ⟨a1, i, ⟨a2.1, by omega⟩, a3⟩
            · rw [List.mem_singleton] at hx
              rw [hx]
              exact ⟨t5, j, ⟨h1, by omega⟩, hk, rfl, hw⟩
          · rw [List.length_append, List.length_singleton] at hr
            by_cases hij : i = j
            · rw [hij]; exact List.mem_append.mpr (Or.inr (List.mem_singleton.mpr rfl))
            · exact List.mem_append.mpr (Or.inl (d6 (by omega) i hi1 (by omega) hi3 hi4))
          · rw [List.length_append, List.length_singleton]
            omega
        · rw [pb]
          refine nx j v d h1 h2 ⟨d1, d2, d3, d4, fun x hx => ?_, fun hr => absurd hr (by omega), d7⟩
          obtain ⟨a1, i, a2, a3⟩ := d5 x hx
          exact ⟨a1, i, ⟨a2.1, by omega⟩, a3⟩
      · have z : ¬ ((st + d.length : Nat) : Int) ≤ (st + i : Nat) := fun y => of_decide_eq_false z ((I_le (x := (st + d.length : Nat)) (y := (st + i : Nat)) (by omega) (by omega) (by omega) (by omega)).mpr y)
        have hi2 : i < d.length := by omega
        have h24 := d7 (fun z => by rw [z] at hi2; exact absurd hi2 (Nat.not_lt_zero _))
        rw [at_p (by omega), bnd_s]
        have ed : d[i]? = some d[i] := List.getElem?_eq_getElem hi2
        have e3 := d3 i _ ed
        rw [e3]
        have md : d[i] ∈ d := List.getElem_mem hi2
        refine pk_br (fun z => ?_) (fun z => ?_)
        · have z := nmi_i hn (d5 _ md).1 t5 (of_decide_eq_true z)
          unfold hb_Cm_hold_92
          rw [d2, decide_eq_false (p := I ((st + i : Nat) : Int) = I ((st + d.length : Nat) : Int)) (fun y => by have := (I_eq (x := (st + i : Nat)) (y := (st + d.length : Nat)) (by omega) (by omega) (by omega) (by omega)).mp y; omega), br_fq]
          exact nx j v d h1 h2 (fnd1 (z ▸ md))
        · rw [i_suc]
          refine ih.2 j (i + 1) v d h1 h2 hk hw (by omega) (fun k hk2 => ?_) hd
          by_cases hki : k = i
          · rw [hki, ed]
            intro y
            injection y with y
            exact of_decide_eq_false z (by rw [y])
          · exact hno k (by omega)
theorem hold_p (hn : NMJ nm) (hst : 1 ≤ st ∧ st ≤ 100000) (h441 : v.1 441 = I (st : Nat)) (hp : p < p2) (hp2 : p2 ≤ 4001) (tk : TKN v K nm Nk W p p2) (h709 : v.1 709 = I (L : Nat)) (hL : L ≤ 40) : PK (fun u r => ∃ d2, HDL K Nk W nm L p p2 st v u d2 ∧ r = I ((d2.length : Nat) : Int)) (hm_Cm_hold N v (I (p : Nat)) (I ((p2 : Nat) - 1 : Int))) := by
  unfold hm_Cm_hold hb_Cm_hold_0
  rw [h441]
  exact (hold_lp hn hst hp2 tk h709 hL N).1 p v [] (Nat.le_refl _) (by omega) ⟨Ku_rf, h441, (fun k x hx => by rw [List.getElem?_nil] at hx; cases hx), List.nodup_nil, fun x hx => absurd hx (List.not_mem_nil), fun _ i h1 h2 => absurd h2 (by omega), fun z => absurd rfl z⟩
end
end
section
set_option maxRecDepth 100000
def AFT (v u : MS) : Prop := (∀ k, k ∉ [441, 709, 711, 712] → u.1 k = v.1 k) ∧ (∀ k, k ≠ 23 → k ≠ 32 → u.2.2.1 k = v.2.2.1 k) ∧ v.1 441 ≤ u.1 441
section
variable {m v u v0 m1 m2 m3 mi : MS} {K nm W Nk : Nat → Nat} {sc sc1 sc2 t t3 : SCT} {e3 : List Nat × List Nat × Nat} {x y N i j f L st p p2 q q1 q2 k lo li ni n2 ν π cm X1 X2 : Nat} {d lp : List Nat} {a b c e : Int32} {gd R1 R2 Z1 Z2 : Bool} {B1 B2 : MS → Prop}
theorem hold_b (h24 : 24000 ≤ F v 441) {a b : Int32} : PK (fun u r => u = v ∧ r = 0) (hm_Cm_hold N v a b) := by
  have lp : ∀ (M : Nat), (∀ j : Int32, PK (fun u r => u = v ∧ r = 0) ((hg_Cm_hold N M).1 v b (v.1 441) j)) ∧ ∀ j y : Int32, PK (fun u r => u = v ∧ r = 0) ((hg_Cm_hold N M).2 v b (v.1 441) j y (v.1 441)) := by
    intro M
    induction M with
    | zero => exact ⟨fun _ => pk_none, fun _ _ => pk_none⟩
    | succ M ih =>
      refine ⟨fun j => ?_, fun j y => ?_⟩
      · show PK _ (hb_Cm_hold_11 N (hg_Cm_hold N M) v b (v.1 441) j)
        unfold hb_Cm_hold_11 hb_Cm_hold_113
        refine pk_br (fun _ => pk_some ⟨rfl, ?_⟩) (fun _ => pk_ck (fun _ => pk_br (fun _ => pk_ck (fun _ => pk_br (fun _ => ih.1 _) (fun _ => pk_ck (fun _ => ih.2 _ _)))) (fun _ => ih.1 _)))
        rw [I_F (k := 441), I_sub, Int.sub_self]
        rfl
      · show PK _ (hb_Cm_hold_60 N (hg_Cm_hold N M) v b (v.1 441) j y (v.1 441))
        unfold hb_Cm_hold_60 hb_Cm_hold_92 hb_Cm_hold_113
        rw [decide_eq_true (Int32.le_refl (v.1 441)), br_tq, decide_eq_true (p := v.1 441 = v.1 441) rfl, br_tq]
        refine pk_bnd (fun w r x => ?_)
        rcases (put_pk (u := v) (N := N) w r x).2 with ⟨z, _⟩ | ⟨_, z⟩
        · omega
        · rw [z]; exact ih.1 _
  exact (lp N).1 _
theorem hold_q (hn : NMJ nm) (h1 : 1 ≤ F v 441) (hp : p < p2) (hp2 : p2 ≤ 4001) (tk : TKN v K nm Nk W p p2) (h709 : v.1 709 = I (L : Nat)) (hL : L ≤ 40) : PK (fun u r => Kuc v u ∧ ∃ d : List Nat, r = I ((d.length : Nat) : Int) ∧ d.Nodup ∧ (∀ x, x ∈ d → x < 1400 ∧ ∃ i, (p ≤ i ∧ i < p2) ∧ K i = 3 ∧ Nk i = x ∧ W i ≤ L) ∧ (u.1 441 < 24000 → ∀ i, p ≤ i → i < p2 → K i = 3 → W i ≤ L → Nk i ∈ d)) (hm_Cm_hold N v (I (p : Nat)) (I ((p2 : Nat) - 1 : Int))) := by
  by_cases h24 : 24000 ≤ F v 441
  · refine pk_mo (hold_b h24) (fun u r q => ?_)
    rw [q.1]
    refine ⟨Ku_rf, [], q.2, List.nodup_nil, fun x hx => absurd hx (List.not_mem_nil), fun z => ?_⟩
    have f := F_r v 441
    rw [I_F (k := 441)] at z
    have := (I_lt (y := 24000) f.1 f.2 (by decide) (by decide)).mp z
    omega
  · have e : v.1 441 = I (((F v 441).toNat : Nat) : Int) := by rw [I_F (k := 441), Int.toNat_of_nonneg (by omega)]
    refine pk_mo (hold_p (st := (F v 441).toNat) hn ⟨by omega, by omega⟩ e hp hp2 tk h709 hL) (fun u r q => ?_)
    obtain ⟨d, hd, hr⟩ := q
    have dl := d_len hd
    obtain ⟨d1, d2, d3, d4, d5, d6, d7⟩ := hd
    refine ⟨d1, d, hr, d4, d5, fun z => d6 ?_⟩
    rw [d2] at z
    have := (I_lt (x := ((F v 441).toNat + d.length : Nat)) (y := 24000) (by omega) (by omega) (by decide) (by decide)).mp z
    omega
theorem nd_sub : ∀ {a b : List Nat}, a.Nodup → (∀ x, x ∈ a → x ∈ b) → a.length ≤ b.length
  | [], _, _, _ => Nat.zero_le _
  | x :: a, b, h, k => by
    obtain ⟨h1, h2⟩ := List.nodup_cons.mp h
    have hx := k x (List.mem_cons_self ..)
    have := nd_sub (a := a) (b := b.erase x) h2 (fun y hy => (List.mem_erase_of_ne (fun (z : y = x) => h1 (by rw [← z]; exact hy))).mpr (k y (List.mem_cons_of_mem _ hy)))
    rw [List.length_erase_of_mem hx] at this
    have := List.length_pos_of_mem hx
    rw [List.length_cons]
    omega
theorem CNl_fr2 : ∀ {sc : SCT}, CNl m nm sc → (∀ j, j < sc.length → v.2.2.1 40 j = m.2.2.1 40 j) → (∀ j, j < tot sc → v.2.2.1 39 j = m.2.2.1 39 j) → CNl v nm sc
  | [], _, _, _ => trivial
  | e :: t, ⟨c1, c2, c3⟩, h1, h2 => by
    refine ⟨by rw [h1 t.length (Nat.lt_succ_self _)]; exact c1, fun k x hx => ?_, CNl_fr2 c3 (fun j hj => h1 j (Nat.lt_succ_of_lt hj)) (fun j hj => h2 j (Nat.lt_of_lt_of_le hj (Nat.le_add_right _ _)))⟩
    rw [h2 (tot t + k) ?_]
    · exact c2 k x hx
    · obtain ⟨hk, _⟩ := List.getElem?_eq_some_iff.mp hx
      exact Nat.add_lt_add_left hk _
theorem AFT_rf : AFT v v := ⟨fun _ _ => rfl, fun _ _ _ => rfl, Int32.le_refl _⟩
theorem AFT_tr {w : MS} (h : AFT v u) (k : AFT u w) : AFT v w := ⟨fun j hj => (k.1 j hj).trans (h.1 j hj), fun j a b => (k.2.1 j a b).trans (h.2.1 j a b), Int32.le_trans h.2.2 k.2.2⟩
theorem AFT_u (k : Kuc v u) : AFT v u := ⟨fun j hj => k.1 j (fun z => hj (by rw [z]; decide)), fun j h1 _ => k.2.1 j h1, k.2.2⟩
theorem AFT_I {y : Int32} (h : k = 709 ∨ k = 711 ∨ k = 712) : AFT v (upI v k y) := ⟨fun j hj => upI_ne (fun z => hj (by rw [z]; rcases h with h | h | h <;> rw [h] <;> decide)), fun _ _ _ => rfl, by rw [upI_ne (by omega)]; exact Int32.le_refl _⟩
theorem AFT_A {g : Nat → Int32} : AFT v (upA v 32 g) := ⟨fun _ _ => rfl, fun j _ h => upA_no h, Int32.le_refl _⟩
theorem AFT_fr (h : AFT v u) : FRC v u := ⟨fun k hk => h.1 k (by simp only [List.mem_cons, List.not_mem_nil, or_false]; omega), fun k hk => h.2.1 k (by omega) (by omega)⟩
end
end
section
set_option maxRecDepth 100000
section
variable {m v u v0 m1 m2 m3 mi : MS} {K nm W Nk : Nat → Nat} {sc sc1 sc2 t t3 : SCT} {e3 : List Nat × List Nat × Nat} {x y N i j f L st p p2 q q1 q2 k lo li ni n2 ν π cm X1 X2 : Nat} {d lp : List Nat} {a b c e : Int32} {gd R1 R2 Z1 Z2 : Bool} {B1 B2 : MS → Prop}
theorem exn_fun (hnm : NMJ nm) (hn : nod m2 ν = (I ((12 : Nat) : Int), I (p : Nat), a, I (π : Nat), I ((p2 : Nat) - 1 : Int))) (hp2 : p < p2 ∧ p2 ≤ 4001) (hlo : lo < ν) (hν : ν ≤ n2) (hl : n2 ≤ 8015) (hq : p ≤ q ∧ q ≤ q1 ∧ q1 ≤ q2 ∧ q2 ≤ p2) (g1 : ∀ j, p ≤ j → j < q → K j ≠ 3) (g2 : ∀ j, q2 ≤ j → j < p2 → K j ≠ 3) (hπ : lo < π ∧ π ≤ ni) (hT : TRB N K nm true mi li ni π q q1 (([], [], 0) :: sc) sc1 X1 W R1 Z1 B1) (hB : BDB N K nm mi li ni π q1 q2 sc1 (e3 :: t3) X2 W R2 Z2 B2) (hli : lo ≤ li) (h1 : KPO ni mi m2) (hk : Kcc mi m2) (hni : ni < ν) (hpt : m2.2.2.1 18 π = I ((lp.headD 0 : Nat) : Int)) (hx : NXT m2 lp) (hxm : ∀ x, x ∈ lp → lo < x ∧ x ≤ ni) (hll : lp.length ≤ 4000) (hlen : sc.length ≤ 26) (hb1 : tot sc1 ≤ tot sc + (q1 - q) ∧ sc1.length = sc.length + 1 ∧ X1 ≤ 1400) (hX2 : X2 ≤ 1400) (hS : SCX (([], [], 0) :: sc) (e3 :: t3) (max X1 X2)) (hH : HDs Nk K W q q2 (([], [], 0) :: sc) (e3 :: t3)) (ok : SOK (e3 :: t3)) (hTok : ∀ j, p ≤ j → j < p2 → m2.2.2.1 6 j = I (K j : Nat) ∧ K j < 46 ∧ (K j = 3 → m2.2.2.1 7 j = I (nm (Nk j) : Nat) ∧ Nk j < 1400 ∧ W j ≤ 32)) (s1 : STB B1) (s2 : STB B2) : EXN N K nm gd m2 lo n2 ν p p2 sc t3 0 W (gd || (R1 || R2)) ((Z1 || Z2) || decide (40 < max X1 X2 + e3.2.1.length)) (fun m => B1 m ∨ B2 m) := by
  refine exn_cmp (k := 12) (by unfold CMK; omega) ⟨by decide, by decide⟩ hn (by omega) hlo hν hl (fun _ d m3 cm last kx cp ee => ?_)
  have bds := hS.2.2
  have tl3 := BDs_len bds
  have n3 := BDs_nm bds
  unfold cmpR hb_Cm_compound_455
  rw [tnI (n := ν) rfl (by omega), ee.1]
  refine pk_ck (fun _ => ?_)
  rw [show decide (I ((12 : Nat) : Int) = 8) = false from rfl, br_fq, show decide (I ((12 : Nat) : Int) = 9) = false from rfl, br_fq, show decide (I ((12 : Nat) : Int) = 10) = false from rfl, br_fq, show decide (I ((12 : Nat) : Int) = 11) = false from rfl, br_fq, show decide (I ((12 : Nat) : Int) = 12) = true from rfl, br_tq]
  cases d with
  | zero => exact pk_none
  | succ d =>
    refine pk_bnd ?_
    show PK _ (hm_Cm_fun N (hrc_Cm_fun N d) m3 (I (ν : Nat)))
    refine pk_mo (Q := fun u (_ : Unit) => CPO K nm p p2 sc t3 0 W (R1 || R2) ((Z1 || Z2) || decide (40 < max X1 X2 + e3.2.1.length)) (fun m => B1 m ∨ B2 m) cm m3 u) ?_ (fun v _ q => pk_some q)
    have eπ : nod m3 π = nod m2 π ∧ m3.2.2.1 18 π = m2.2.2.1 18 π := by
      have := (kx.1 π hπ.1 (by omega)).1
      exact ⟨this, (Prod.mk.inj (Prod.mk.inj (Prod.mk.inj this).2).2).1⟩
    have hx3 : NXT m3 lp := NXT_k hx (fun x hx => by obtain ⟨y1, y2⟩ := hxm x hx; exact (kx.1 x y1 (by omega)).2 (by omega))
    unfold hm_Cm_fun hb_Cm_fun_0
    rw [tnI (n := ν) rfl (by omega), ee.2.2.2.1, tnI (n := π) rfl (by omega), eπ.2, hpt, ee.2.2.1]
    refine pk_ck (fun _ => pk_ck (fun _ => pk_ck (fun _ => pk_bnd (pk_mo (length_p (N := N) hx3) (fun u18 r18 h18 => ?_)))))
    rw [h18.1, h18.2]
    refine pk_ltq (pk_bnd (fun w23 r23 x23 => pk_bnd (fun w26 r26 x26 => pk_ck (fun _ => pk_ltq (pk_ck (fun _ => pk_ltq ?_))))))
    refine pk_ltq (pk_ltq (pk_ck (fun _ => pk_ltq (pk_ck (fun _ => pk_ltq (pk_ck (fun _ => pk_ck (fun _ => ?_))))))))
    have f23 := yu_hm_Co_put (u0 := upI m3 712 0) Ku_rf w23 r23 x23
    have f26 := yu_hm_Co_hook (u0 := upI m3 712 0) f23 w26 r26 x26
    have c709 : w26.1 709 = I ((sc.length - 1 : Nat) : Int) := by rw [f26.1 709 (by decide), upI_ne (by decide)]; exact cp.2.1.1
    have sl1 := cp.2.1.2.1.1
    have y42 : (if 31 < ((upA (upA w26 30 (upd (w26.2.2.1 30) a.toNatClampNeg (I ((lp.length : Nat) : Int)))) 31 (upd ((upA w26 30 (upd (w26.2.2.1 30) a.toNatClampNeg (I ((lp.length : Nat) : Int)))).2.2.1 31) a.toNatClampNeg ((upA w26 30 (upd (w26.2.2.1 30) a.toNatClampNeg (I ((lp.length : Nat) : Int)))).1 441))).1 709) + 1 then (31 : Int32) else ((upA (upA w26 30 (upd (w26.2.2.1 30) a.toNatClampNeg (I ((lp.length : Nat) : Int)))) 31 (upd ((upA w26 30 (upd (w26.2.2.1 30) a.toNatClampNeg (I ((lp.length : Nat) : Int)))).2.2.1 31) a.toNatClampNeg ((upA w26 30 (upd (w26.2.2.1 30) a.toNatClampNeg (I ((lp.length : Nat) : Int)))).1 441))).1 709) + 1) = I (sc.length : Nat) := by
      show (if 31 < w26.1 709 + 1 then (31 : Int32) else w26.1 709 + 1) = _
      rw [c709, i_suc, show sc.length - 1 + 1 = sc.length by omega, if_neg (fun z => by have := (I_lt (x := 31) (y := (sc.length : Nat)) (by decide) (by decide) (by omega) (by omega)).mp z; omega)]
    rw [y42]
    generalize hw40 : upA (upA w26 30 (upd (w26.2.2.1 30) a.toNatClampNeg (I ((lp.length : Nat) : Int)))) 31 (upd ((upA w26 30 (upd (w26.2.2.1 30) a.toNatClampNeg (I ((lp.length : Nat) : Int)))).2.2.1 31) a.toNatClampNeg ((upA w26 30 (upd (w26.2.2.1 30) a.toNatClampNeg (I ((lp.length : Nat) : Int)))).1 441)) = w40
    have i40 : ∀ k, k ≠ 441 → k ≠ 712 → w40.1 k = m3.1 k := fun k h1 h2 => by
      rw [← hw40]
      show w26.1 k = m3.1 k
      rw [f26.1 k h1, upI_ne h2]
    have z40 : m3.1 441 ≤ w40.1 441 := by
      rw [← hw40]
      have := f26.2.2
      rw [upI_ne (by decide)] at this
      exact this
    have c712 : w40.1 712 = 0 := by
      rw [← hw40]
      show w26.1 712 = 0
      rw [f26.1 712 (by decide), upI_at]
    have r40 : ∀ k, k ≠ 23 → k ≠ 30 → k ≠ 31 → w40.2.2.1 k = m3.2.2.1 k := fun k h1 h2 h3 => by
      rw [← hw40, upA_no h3, upA_no h2]
      exact f26.2.1 k h1
    rw [show (upI w40 709 (I (sc.length : Nat))).1 709 = I (sc.length : Nat) from upI_at]
    have tS : (I (sc.length : Nat)).toNatClampNeg = sc.length := tnI (n := sc.length) rfl (by omega)
    rw [tS]
    rw [show (upA (upI w40 709 (I (sc.length : Nat))) 40 (upd ((upI w40 709 (I (sc.length : Nat))).2.2.1 40) sc.length ((upI w40 709 (I (sc.length : Nat))).1 706))).1 709 = I (sc.length : Nat) from (by show (upI w40 709 (I (sc.length : Nat))).1 709 = _; exact upI_at), tS]
    generalize hw52 : upA (upA (upI w40 709 (I (sc.length : Nat))) 40 (upd ((upI w40 709 (I (sc.length : Nat))).2.2.1 40) sc.length ((upI w40 709 (I (sc.length : Nat))).1 706))) 41 (upd ((upA (upI w40 709 (I (sc.length : Nat))) 40 (upd ((upI w40 709 (I (sc.length : Nat))).2.2.1 40) sc.length ((upI w40 709 (I (sc.length : Nat))).1 706))).2.2.1 41) sc.length 0) = w52
    have i52 : ∀ k, k ≠ 441 → k ≠ 712 → k ≠ 709 → w52.1 k = m3.1 k := fun k h1 h2 h3 => by
      rw [← hw52]
      show (upI w40 709 (I (sc.length : Nat))).1 k = m3.1 k
      rw [upI_ne h3]
      exact i40 k h1 h2
    have z52 : m3.1 441 ≤ w52.1 441 := by
      rw [← hw52]
      show m3.1 441 ≤ (upI w40 709 (I (sc.length : Nat))).1 441
      rw [upI_ne (by decide)]
      exact z40
    have j709 : w52.1 709 = I (sc.length : Nat) := by rw [← hw52]; show (upI w40 709 (I (sc.length : Nat))).1 709 = _; exact upI_at
    have j712 : w52.1 712 = 0 := by rw [← hw52]; show (upI w40 709 (I (sc.length : Nat))).1 712 = 0; rw [upI_ne (by decide)]; exact c712
    have r52 : ∀ k, k ≠ 23 → k ≠ 30 → k ≠ 31 → k ≠ 40 → k ≠ 41 → w52.2.2.1 k = m3.2.2.1 k := fun k h1 h2 h3 h4 h5 => by
      rw [← hw52, upA_no h5, upA_no h4]
      exact r40 k h1 h2 h3
    have q40 : w52.2.2.1 40 = upd (m3.2.2.1 40) sc.length (I (tot sc : Nat)) := by
      rw [← hw52, upA_no (by decide), upA_at]
      show upd (w40.2.2.1 40) sc.length ((upI w40 709 (I (sc.length : Nat))).1 706) = _
      rw [r40 40 (by decide) (by decide) (by decide), upI_ne (by decide), i40 706 (by decide) (by decide), cp.2.1.2.2.1]
    have q41 : w52.2.2.1 41 = upd (m3.2.2.1 41) sc.length 0 := by
      rw [← hw52, upA_at, upA_no (by decide)]
      show upd (w40.2.2.1 41) sc.length 0 = _
      rw [r40 41 (by decide) (by decide) (by decide)]
    have f52 : FRC m3 w52 := ⟨fun k hk => i52 k (by omega) (by omega) (by omega), fun k hk => r52 k (by omega) (by omega) (by omega) (by omega) (by omega)⟩
    have cn52 : CNs w52 nm (([], [], 0) :: sc) := by
      refine ⟨by rw [j709]; rfl, ⟨by rw [List.length_cons]; omega, by rw [List.length_cons]; omega⟩, by rw [i52 706 (by decide) (by decide) (by decide)]; exact cp.2.1.2.2.1, cp.2.1.2.2.2.1, ?_, fun k x hx => (by rw [List.getElem?_nil] at hx; cases hx), ?_⟩
      · rw [q40, upd_at]
      · exact CNl_fr2 cp.2.1.2.2.2.2 (fun j hj => by rw [q40, upd_no (by omega)]) (fun j _ => by rw [r52 39 (by decide) (by decide) (by decide) (by decide) (by decide)])
    have cp52 : CPR nm false q q2 (([], [], 0) :: sc) 0 w52 := by
      refine ⟨by rw [i52 714 (by decide) (by decide) (by decide)]; exact cp.1, cn52, ?_, by omega, by rw [i52 713 (by decide) (by decide) (by decide)]; exact cp.2.2.2.2.1, by rw [j712]; rfl, ?_⟩
      · rw [q41]
        show upd (m3.2.2.1 41) sc.length 0 sc.length = _
        rw [upd_at]
        rfl
      · have := cp.2.2.2.2.2.2
        show tot sc + 0 + (q2 - q) ≤ 4000
        omega
    have kx52 : KPX li ni π mi w52 := by
      have k0 : KPX li ni π mi m3 := ⟨fun j a1 a2 => ⟨(kx.1 j (by omega) (by omega)).1.trans (h1 j a2).1, fun _ => ((kx.1 j (by omega) (by omega)).2 (by omega)).trans (h1 j a2).2⟩, Kc_tr hk kx.2⟩
      exact KPX_f k0 f52
    have hc : decide (I ((lp.length : Nat) : Int) < 0) = false := decide_eq_false (fun z => by have := (I_lt (x := (lp.length : Nat)) (y := 0) (by omega) (by omega) (by omega) (by omega)).mp z; omega)
    have cla := fun line => cla_p (d := d) (cnt := I ((lp.length : Nat) : Int)) (line := line) hT hB ⟨hq.2.1, hq.2.2.1⟩ (by omega) kx52 hc hb1 s2 (b := 0) ⟨Nat.zero_le _, by show tot t3 + 0 = tot sc + 0; omega⟩ cp52
    refine pk_bnd (pk_mo (cla _) (fun u63 r63 q63 => ?_))
    rcases q63 with ⟨qf, qs, qr⟩ | ⟨⟨qf, qb⟩, qn⟩
    · refine pk_mo (Q := fun w (_ : Unit) => Kzc u63 w) ?_ (fun w _ z => ?_)
      · intro w r x
        have hv : Kzc u63 u63 := ⟨qs, FRC_rf⟩
        refine (?_ : KzE u63 _) w r x
        obtain ⟨hS0, hS1, hS2, hS3, hS4, hS5, hS6, hS7, hS8, hS9, hS10, hS11, hS12⟩ := yz_hrc_Cm_fun (u0 := u63) (N := N) d
        unfold hb_Cm_fun_303 hb_Cm_fun_308
        repeat' (first | with_reducible assumption | with_reducible refine Kz_br ?_ ?_ | with_reducible refine Kz_bnd ?_ (fun _ _ _ => ?_) | with_reducible refine Kz_ck ?_ | with_reducible refine Kz_ltm ?_ (fun _ _ => ?_) | with_reducible refine Kz_some ?_ | with_reducible exact yz_hm_Cm_notInGuard (by assumption) | with_reducible exact yz_hr_Cm_pattern (by assumption) | with_reducible exact yz_hm_Cm_forget (by assumption) | with_reducible exact yz_hm_Co_arrive (by assumption) | with_reducible exact yz_hm_Cm_funOf (by assumption) | with_reducible exact yz_hm_Co_hook (by assumption) | with_reducible exact yz_hm_Co_put (by assumption) | with_reducible exact yz_hm_Cm_term (by assumption) | with_reducible exact yz_hm_Cm_string (by assumption) | with_reducible exact yz_hm_Co_seek (by assumption) | with_reducible exact yz_hm_Cm_predefinedOf (by assumption) | with_reducible exact yz_hm_Cm_fault (by assumption) | with_reducible exact yz_hm_Cm_joining (by assumption) | with_reducible exact yz_hm_Cm_hold (by assumption) | with_reducible exact yz_hm_Co_set (by assumption) | with_reducible exact yz_hm_Tr_length (by assumption) | with_reducible exact hS0 _ _ (by assumption) | with_reducible exact hS1 _ _ _ (by assumption) | with_reducible exact hS2 _ _ _ _ _ (by assumption) | with_reducible exact hS3 _ _ _ (by assumption) | with_reducible exact hS4 _ _ _ (by assumption) | with_reducible exact hS5 _ _ _ (by assumption) | with_reducible exact hS6 _ _ _ (by assumption) | with_reducible exact hS7 _ _ (by assumption) | with_reducible exact hS8 _ _ (by assumption) | with_reducible exact hS9 _ _ (by assumption) | with_reducible exact hS10 _ _ _ (by assumption) | with_reducible exact hS11 _ _ _ (by assumption) | with_reducible exact hS12 _ _ _ _ (by assumption) | with_reducible exact yz_hg_Cm_apply hS0 hS1 hS2 hS3 hS4 hS5 hS6 hS7 hS8 hS9 hS10 hS11 hS12 _ _ _ _ _ (by assumption) | with_reducible exact yz_hg_Cm_row hS0 hS1 hS2 hS3 hS4 hS5 hS6 hS7 hS8 hS9 hS10 hS11 hS12 _ _ _ (by assumption) | with_reducible exact yz_hg_Cm_signs hS0 hS1 hS2 hS3 hS4 hS5 hS6 hS7 hS8 hS9 hS10 hS11 hS12 _ _ _ _ _ _ _ (by assumption) | with_reducible exact yz_hg_Cm_body hS0 hS1 hS2 hS3 hS4 hS5 hS6 hS7 hS8 hS9 hS10 hS11 hS12 _ _ _ _ (by assumption) | with_reducible exact yz_hg_Cm_parts hS0 hS1 hS2 hS3 hS4 hS5 hS6 hS7 hS8 hS9 hS10 hS11 hS12 _ _ _ _ _ _ _ (by assumption) | with_reducible exact (yz_hg_Cm_tries hS0 hS1 hS2 hS3 hS4 hS5 hS6 hS7 hS8 hS9 hS10 hS11 hS12 _).1 _ _ _ _ _ (by assumption) | with_reducible exact (yz_hg_Cm_tries hS0 hS1 hS2 hS3 hS4 hS5 hS6 hS7 hS8 hS9 hS10 hS11 hS12 _).2 _ _ _ _ (by assumption) | with_reducible refine Kz_ltv (fun _ => ?_) | with_reducible refine Kz_I ?_ (by decide) | with_reducible refine Kz_A ?_ (by decide))
      · refine CPO_z (v := u63) ⟨?_, qs, FRC_tr f52 qr⟩ z
        rcases qf with z | z | z
        · exact Or.inl z
        · exact Or.inr (Or.inl ((s1 m3 w52 f52).mp z))
        · exact Or.inr (Or.inr ((s2 m3 w52 f52).mp z))
    · have fr63 := FRC_tr f52 qn.2.2.2.2.2.2.2.2
      refine pk_bnd (fun w65 r65 x65 => pk_ck (fun _ => pk_ltq (pk_ck (fun _ => pk_ltq (pk_bnd (fun w75 r75 x75 => pk_bnd (fun w78 r78 x78 => pk_bnd (fun w81 r81 x81 => pk_ck (fun _ => pk_ltq (pk_bnd (fun w92 r92 x92 => pk_ck (fun _ => pk_ck (fun _ => ?_)))))))))))))
      have f65 := yu_hm_Co_put (u0 := u63) Ku_rf w65 r65 x65
      have i65 : ∀ k, k ≠ 441 → w65.1 k = u63.1 k := f65.1
      have a65 := AFT_u f65
      have a72 : AFT u63 (upI w65 709 (w65.1 709 - 1)) := AFT_tr a65 (AFT_I (Or.inl rfl))
      have a73 : AFT u63 (upI (upI w65 709 (w65.1 709 - 1)) 712 (m3.1 712)) := AFT_tr a72 (AFT_I (Or.inr (Or.inr rfl)))
      generalize hw73 : upI (upI w65 709 (w65.1 709 - 1)) 712 (m3.1 712) = w73 at x75 a73
      obtain ⟨⟨c1, c2, c3, c4, c5⟩, b2, b3, b4, b5, b6, b7, b8, b9⟩ := qn
      have e709 : w73.1 709 = I ((sc.length - 1 : Nat) : Int) := by
        rw [← hw73, upI_ne (by decide), upI_at, i65 709 (by decide), c1, cutS_len]
        show I ((t3.length + 1 - 1 : Nat) : Int) - 1 = _
        rw [lit1q, I_sub]
        congr 1
        omega
      have e712 : w73.1 712 = m3.1 712 := by rw [← hw73, upI_at]
      have f75 := yu_hm_Co_arrive (u0 := w73) Ku_rf w75 r75 x75
      have f78 := yu_hm_Co_put (u0 := w73) f75 w78 r78 x78
      have f81 := yu_hm_Co_put (u0 := w73) f78 w81 r81 x81
      generalize hw90 : upA w81 32 (upd (w81.2.2.1 32) a.toNatClampNeg (w81.1 441)) = w90 at x92
      have a90 : AFT u63 w90 := by rw [← hw90]; exact AFT_tr (AFT_tr a73 (AFT_u f81)) AFT_A
      have i90 : ∀ k, k ≠ 441 → w90.1 k = w73.1 k := fun k hk => by rw [← hw90]; exact f81.1 k hk
      have f92 := yu_hm_Co_put (u0 := w90) Ku_rf w92 r92 x92
      have a92 := AFT_tr a90 (AFT_u f92)
      have i92 : ∀ k, k ≠ 441 → w92.1 k = w73.1 k := fun k hk => (f92.1 k hk).trans (i90 k hk)
      have fr92 := FRC_tr fr63 (AFT_fr a92)
      have tk : TKN w92 K nm Nk W p p2 := fun j y1 y2 => by
        obtain ⟨t1, t2, t3⟩ := hTok j y1 y2
        refine ⟨by rw [fr92.2 6 (by omega), kx.2.2 6 (by omega)]; exact t1, t2, fun k3 => ?_⟩
        obtain ⟨t4, t5, t6⟩ := t3 k3
        refine ⟨by rw [fr92.2 7 (by omega), kx.2.2 7 (by omega)]; exact t4, t5, ?_, t6⟩
        rw [a92.2.1 42 (by decide) (by decide), b4]
        unfold wup
        refine if_pos ⟨?_, ?_, k3⟩
        · exact Nat.le_of_not_lt (fun z => g1 j y1 z k3)
        · exact Nat.lt_of_not_le (fun z => g2 j z y2 k3)
      have h441 := (put_pk (u := w90) (N := N) w92 r92 x92).1
      rw [show w92.2.2.1 17 ν = I (p : Nat) from by rw [fr92.2 17 (by omega)]; exact ee.2.1, show w92.2.2.1 20 ν = I ((p2 : Nat) - 1 : Int) from by rw [fr92.2 20 (by omega)]; exact ee.2.2.2.2]
      refine pk_bnd (pk_mo (hold_q (L := sc.length - 1) hnm h441 hp2.1 hp2.2 tk (by rw [i92 709 (by decide)]; exact e709) (by omega)) (fun w104 r104 q104 => pk_ck (fun _ => pk_bnd (fun w111 r111 x111 => ?_))))
      obtain ⟨f104, dd, hr104, d1, d2, d3⟩ := q104
      have f111 := yu_hm_Co_set (u0 := w92) f104 w111 r111 x111
      have a111 := AFT_tr a92 (AFT_u f111)
      have i111 : ∀ k, k ≠ 441 → w111.1 k = w73.1 k := fun k hk => (f111.1 k hk).trans (i92 k hk)
      have e711 : w111.1 711 = u63.1 711 := by rw [i111 711 (by decide), ← hw73, upI_ne (by decide), upI_ne (by decide)]; exact i65 711 (by decide)
      have nmx : w65.2.2.1 41 (w65.1 709).toNatClampNeg = I ((max X1 X2 : Nat) : Int) := by
        rw [i65 709 (by decide), c1, cutS_len, tnI (n := (e3 :: t3).length - 1) rfl (by rw [List.length_cons]; omega), f65.2.1 41 (by decide)]
        show u63.2.2.1 41 (t3.length + 1 - 1) = _
        rw [show t3.length + 1 - 1 = sc.length by omega]
        have b2 : u63.2.2.1 41 sc.length = I ((max 0 (max X1 X2) : Nat) : Int) := b2
        rw [b2, Nat.max_eq_right (Nat.zero_le _)]
      have dlen : dd.length ≤ 1400 := nd_len 1400 dd d1 (fun x hx => (d2 x hx).1)
      have hd1 := hH.1.1
      have hd2 := hH.1.2.1
      have nd := ok.1.2.2.2.2.2.2
      have h60 := ok.1.2.2.1
      have sL : ∀ w : Nat, w ≤ sc.length - 1 ↔ w < sc.length := fun w => by omega
      have toq : ∀ i, p ≤ i → i < p2 → K i = 3 → q ≤ i ∧ i < q2 := fun i y1 y2 y3 => ⟨Nat.le_of_not_lt (fun z => g1 i y1 z y3), Nat.lt_of_not_le (fun z => g2 i z y2 y3)⟩
      have up : e3.2.1.length < 60 → dd.length ≤ e3.2.1.length := fun h6 => nd_sub d1 (fun x hx => by
        obtain ⟨_, i, y1, y2, y3, y4⟩ := d2 x hx
        obtain ⟨z1, z2⟩ := toq i y1.1 y1.2 y2
        rw [← y3]
        exact hd2 h6 i z1 z2 y2 ((sL _).mp y4))
      have dn : w104.1 441 < 24000 → e3.2.1.length ≤ dd.length := fun h24 => nd_sub nd (fun x hx => by
        rcases hd1 x hx with z | ⟨i, y1, y2, y3, y4⟩
        · exact absurd z (List.not_mem_nil)
        · rw [← y3]
          exact d3 h24 i (by omega) (by omega) y2 ((sL _).mpr y4))
      have le104 : w104.1 441 ≤ w111.1 441 := by
        have := yu_hm_Co_set (u0 := w104) Ku_rf w111 r111 x111
        exact this.2.2
      have fin : ∀ t1 : Int32, (w111.1 441 < 24000 → (t1 = 0 ↔ (w111.1 711 = 0 ∧ max X1 X2 + e3.2.1.length ≤ 40))) → (w111.1 711 = 0 → max X1 X2 + e3.2.1.length ≤ 40 → t1 = 0) → CPO K nm p p2 sc t3 0 W (R1 || R2) ((Z1 || Z2) || decide (40 < max X1 X2 + e3.2.1.length)) (fun m => B1 m ∨ B2 m) cm m3 (upI w111 711 t1) := fun t1 ht1 ht2 => by
        have aE : AFT u63 (upI w111 711 t1) := AFT_tr a111 (AFT_I (Or.inr (Or.inl rfl)))
        have frE := FRC_tr fr63 (AFT_fr aE)
        refine CPO_ok ⟨qf, fun z => qb ?_⟩ ⟨⟨?_, ?_, ?_, ?_, ?_⟩, ?_, fun j hj => ?_, ?_, ?_, ?_, ?_, ?_, frE⟩
        · rcases z with z | z
          · exact Or.inl ((s1 m3 w52 f52).mpr z)
          · exact Or.inr ((s2 m3 w52 f52).mpr z)
        · rw [upI_ne (by decide), i111 709 (by decide), e709, tl3.1]
        · rw [tl3.1]; omega
        · rw [aE.1 706 (by decide), c3, cutS_tot (Nat.zero_le _)]
          rfl
        · rw [tl3.2]; exact cp.2.1.2.2.2.1
        · have c5 : CNl u63 nm t3 := c5.2.2
          exact CNl_fr c5 (aE.2.1 40 (by decide) (by decide)) (fun j _ => by rw [aE.2.1 39 (by decide) (by decide)])
        · rw [aE.2.1 41 (by decide) (by decide), Nat.max_eq_left (Nat.zero_le cm)]
          have b3 := b3 (sc.length - 1) (by show sc.length - 1 < sc.length + 1 - 1; omega)
          rw [b3, q41, upd_no (by omega)]
          exact cp.2.2.1
        · rw [aE.2.1 41 (by decide) (by decide), b3 j (by show j < sc.length + 1 - 1; omega), q41, upd_no (by omega)]
        · rw [aE.2.1 42 (by decide) (by decide), b4, r52 42 (by decide) (by decide) (by decide) (by decide) (by decide), wup_ext ⟨hq.1, by omega, hq.2.2.2⟩ g1 g2]
        · have e2 : w52.1 711 = m3.1 711 := i52 711 (by decide) (by decide) (by decide)
          refine C11_tr (v := u63) (C11_b b5 z52 e2) ⟨aE.2.2, fun z => ?_, fun z z0 => ?_⟩
          · rw [upI_ne (by decide)] at z
            rw [upI_at, ht1 z, e711, decide_eq_false_iff_not]
            constructor
            · rintro ⟨y1, y2⟩; exact ⟨by omega, y1⟩
            · rintro ⟨y1, y2⟩; exact ⟨y2, by omega⟩
          · rw [decide_eq_false_iff_not] at z
            rw [upI_at]
            exact ht2 (by rw [e711]; exact z0) (by omega)
        · rw [aE.1 714 (by decide), b6]; exact i52 714 (by decide) (by decide) (by decide)
        · rw [upI_ne (by decide), i111 712 (by decide)]; exact e712
        · rw [aE.1 713 (by decide), b8]; exact i52 713 (by decide) (by decide) (by decide)
      have cmp : I ((max X1 X2 : Nat) : Int) + I ((dd.length : Nat) : Int) ≤ 40 ↔ max X1 X2 + dd.length ≤ 40 := by
        rw [I_add]
        exact (I_le (y := 40) (by omega) (by omega) (by decide) (by decide)).trans (by omega)
      rw [hr104, nmx]
      unfold hb_Cm_fun_303 hb_Cm_fun_308
      refine pk_br (fun z => pk_br (fun z2 => pk_ck (fun _ => pk_ltq (pk_some (fin 0 (fun h => ⟨fun _ => ⟨of_decide_eq_true z, ?_⟩, fun _ => rfl⟩) (fun _ _ => rfl))))) (fun z2 => pk_ck (fun _ => pk_ltq (pk_some (fin 1 (fun h => ⟨fun y => absurd y (by decide), fun y => ?_⟩) (fun _ y => ?_)))))) (fun z => pk_ck (fun _ => pk_ltq (pk_some (fin 1 (fun h => ⟨fun y => absurd y (by decide), fun y => absurd y.1 (of_decide_eq_false z)⟩) (fun y _ => absurd y (of_decide_eq_false z))))))
      · have := cmp.mp (of_decide_eq_true z2)
        have := dn (Int32.lt_of_le_of_lt le104 h)
        omega
      · have z2 : ¬ max X1 X2 + dd.length ≤ 40 := fun y => of_decide_eq_false z2 (cmp.mpr y)
        have := up (by omega)
        omega
      · have z2 : ¬ max X1 X2 + dd.length ≤ 40 := fun y => of_decide_eq_false z2 (cmp.mpr y)
        have := up (by omega)
        omega
end
end
section
set_option maxRecDepth 100000
def SGW (N : Nat) (K nm : Nat → Nat) (gd : Bool) (m2 : MS) (lo n2 : Nat) (W : Nat → Nat) : List Nat → Int32 → Int32 → Nat → Nat → SCT → SCT → Nat → Bool → Bool → (MS → Prop) → Prop
  | [], _, _, p, p2, sc, sc2, X, Rf, Zf, BC => p = p2 ∧ sc2 = sc ∧ X = 0 ∧ Rf = false ∧ Zf = false ∧ ∀ m, ¬ BC m
  | ν :: l, am, om, p, p2, sc, sc2, X, Rf, Zf, BC => (lo < ν ∧ ν ≤ n2) ∧ m2.2.2.1 21 ν = I ((l.headD 0 : Nat) : Int) ∧ ((∃ q q2 sc1 X1 X2 R1 R2 Z1 Z2 B1 B2, (p ≤ q ∧ q ≤ q2 ∧ q2 ≤ p2) ∧ (∀ j, p ≤ j → j < q → K j ≠ 3) ∧ (∃ mi li ni k, EXN N K nm gd mi li ni ν q q2 sc sc1 X1 W R1 Z1 B1 ∧ KPX li ni ν mi m2 ∧ (lo ≤ li ∧ ni ≤ n2) ∧ m2.2.2.1 16 ν = I (k : Nat) ∧ k < 23) ∧ (tot sc1 ≤ tot sc + (q2 - q) ∧ sc1.length = sc.length ∧ X1 ≤ 1400) ∧ SGW N K nm gd m2 lo n2 W l am om q2 p2 sc1 sc2 X2 R2 Z2 B2 ∧ X = max X1 X2 ∧ Rf = (R1 || R2) ∧ Zf = (Z1 || Z2) ∧ (∀ m, BC m ↔ B1 m ∨ B2 m) ∧ STB B2) ∨ (m2.2.2.1 16 ν = I ((24 : Nat) : Int) ∧ ((m2.2.2.1 18 ν = I ((6 : Nat) : Int) ∧ SGW N K nm gd m2 lo n2 W l (I (tot sc : Nat)) om p p2 sc sc2 X Rf Zf BC) ∨ (m2.2.2.1 18 ν = I ((16 : Nat) : Int) ∧ SGW N K nm gd m2 lo n2 W l am (I (tot sc : Nat)) p p2 sc sc2 X Rf Zf BC))) ∨ (m2.2.2.1 16 ν = I ((23 : Nat) : Int) ∧ ∃ k : Nat, m2.2.2.1 18 ν = I (k : Nat) ∧ k < 46 ∧ (((k = 6 ∨ k = 16) ∧ ∃ b e1 t1, sc = e1 :: t1 ∧ b ≤ e1.1.length ∧ (if k = 6 then am else om) = I ((tot t1 + b : Nat) : Int) ∧ SGW N K nm gd m2 lo n2 W l am om p p2 (cutS b sc) sc2 X Rf Zf BC) ∨ ((k ≠ 6 ∧ k ≠ 16) ∧ ∃ tk R2, m2.2.2.1 17 ν = I (tk : Nat) ∧ tk ≤ 4000 ∧ SGW N K nm gd m2 lo n2 W l am om p p2 sc sc2 X R2 Zf BC ∧ Rf = ((gd && decide (k = 43 ∨ k = 44)) || R2)))))
section
variable {m v u m1 m2 m3 mi : MS} {K nm W Nk : Nat → Nat} {sc sc1 sc2 t : SCT} {x y N i j p p2 q q2 k lo li ni n1 n2 ν cm X tok : Nat} {l : List Nat} {a b c e : Int32} {gd Rf Zf : Bool} {BC : MS → Prop}
theorem SGW_len : ∀ {l : List Nat} {am om : Int32} {p p2 : Nat} {sc sc2 : SCT} {X : Nat} {Rf Zf : Bool} {BC : MS → Prop}, SGW N K nm gd m2 lo n2 W l am om p p2 sc sc2 X Rf Zf BC → p ≤ p2 ∧ tot sc2 ≤ tot sc + (p2 - p) ∧ sc2.length = sc.length
  | [], _, _, _, _, _, _, _, _, _, _, ⟨h1, h2, _⟩ => by
    subst h1
    subst h2
    exact ⟨Nat.le_refl _, by omega, rfl⟩
  | ν :: l, am, om, p, p2, sc, sc2, X, Rf, Zf, BC, ⟨_, _, h⟩ => by
    rcases h with ⟨q, q2, sc1, X1, X2, R1, R2, Z1, Z2, B1, B2, h1, _, _, h2, h3, _⟩ | ⟨_, ⟨_, h⟩ | ⟨_, h⟩⟩ | ⟨_, k, _, _, ⟨_, b, e1, t1, _, _, _, h⟩ | ⟨_, tk, R2, _, _, h, _⟩⟩
    · obtain ⟨a, b, c⟩ := SGW_len h3
      exact ⟨by omega, by omega, by rw [c, h2.2.1]⟩
    · exact SGW_len h
    · exact SGW_len h
    · obtain ⟨a, b', c⟩ := SGW_len h
      rw [cutS_len] at c
      have := cutS_le (b := b) (sc := sc)
      exact ⟨a, by omega, c⟩
    · exact SGW_len h
theorem joi_p {k tk : Nat} (hk : k < 46) (htk : tk ≤ 4000) (cp : CPR nm gd p p2 sc cm m3) : PK (fun v (_ : Unit) => ((gd && decide (k = 43 ∨ k = 44)) = false ∧ Kuc m3 v) ∨ ((gd && decide (k = 43 ∨ k = 44)) = true ∧ v.1 714 < 1000000000 ∧ FRC m3 v)) (hm_Cm_joining N m3 (I (k : Nat)) (I (tk : Nat))) := by
  have d : ∀ j : Nat, j < 46 → decide (I (k : Nat) = I (j : Nat)) = decide (k = j) := fun j hj => I_dn (by omega) (by omega) rfl
  unfold hm_Cm_joining hb_Cm_joining_0 hb_Cm_joining_106
  rw [show (10 : Int32) = I ((10 : Nat) : Int) from rfl, show (18 : Int32) = I ((18 : Nat) : Int) from rfl, show (33 : Int32) = I ((33 : Nat) : Int) from rfl, show (34 : Int32) = I ((34 : Nat) : Int) from rfl, show (35 : Int32) = I ((35 : Nat) : Int) from rfl, show (43 : Int32) = I ((43 : Nat) : Int) from rfl, show (44 : Int32) = I ((44 : Nat) : Int) from rfl, d 10 (by decide), d 18 (by decide), d 33 (by decide), d 34 (by decide), d 35 (by decide), d 43 (by decide), d 44 (by decide)]
  have two : ∀ (x y : Int32) (b : Bool), b = false → PK (fun v (_ : Unit) => (b = false ∧ Kuc m3 v) ∨ (b = true ∧ v.1 714 < 1000000000 ∧ FRC m3 v)) (bnd (hm_Co_put N m3 x) (fun u5 r5 => bnd (hm_Co_put N u5 y) (fun u2 r2 => some (u2, ())))) := fun x y b hb => by
    refine pk_bnd (fun w1 r1 x1 => pk_bnd (fun w2 r2 x2 => pk_some (Or.inl ⟨hb, ?_⟩)))
    exact yu_hm_Co_put (u0 := m3) (yu_hm_Co_put (u0 := m3) Ku_rf w1 r1 x1) w2 r2 x2
  have jn : ∀ (x y : Int32), (k = 43 ∨ k = 44) → PK (fun v (_ : Unit) => ((gd && decide (k = 43 ∨ k = 44)) = false ∧ Kuc m3 v) ∨ ((gd && decide (k = 43 ∨ k = 44)) = true ∧ v.1 714 < 1000000000 ∧ FRC m3 v)) (bnd (hm_Cm_notInGuard N m3 (I (tk : Nat))) (fun u19 r19 => bnd (hm_Co_put N u19 x) (fun u21 r21 => bnd (hm_Co_put N u21 y) (fun u2 r2 => some (u2, ()))))) := fun x y h4 => by
    rw [decide_eq_true h4, Bool.and_true]
    refine pk_bnd (pk_mo (nig_p cp (by omega)) (fun v _ qg => pk_bnd (fun w1 r1 x1 => pk_bnd (fun w2 r2 x2 => pk_some ?_))))
    have f2 := yu_hm_Co_put (u0 := v) (yu_hm_Co_put (u0 := v) Ku_rf w1 r1 x1) w2 r2 x2
    rcases qg with ⟨qg1, qg2⟩ | ⟨qg1, qg2, qg3⟩
    · rw [qg2] at f2
      exact Or.inl ⟨qg1, f2⟩
    · exact Or.inr ⟨qg1, Ku_s qg2 f2, FRC_tr qg3 (FRC_u f2)⟩
  have no : ¬ (k = 43 ∨ k = 44) → (gd && decide (k = 43 ∨ k = 44)) = false := fun h => by rw [decide_eq_false h, Bool.and_false]
  by_cases h10 : k = 10
  · rw [decide_eq_true h10, br_tq]; exact two _ _ _ (no (by omega))
  rw [decide_eq_false h10, br_fq]
  by_cases h18 : k = 18
  · rw [decide_eq_true h18, br_tq]; exact two _ _ _ (no (by omega))
  rw [decide_eq_false h18, br_fq]
  by_cases h33 : k = 33
  · rw [decide_eq_true h33, br_tq]; exact two _ _ _ (no (by omega))
  rw [decide_eq_false h33, br_fq]
  by_cases h34 : k = 34
  · rw [decide_eq_true h34, br_tq]; exact two _ _ _ (no (by omega))
  rw [decide_eq_false h34, br_fq]
  by_cases h35 : k = 35
  · rw [decide_eq_true h35, br_tq]; exact two _ _ _ (no (by omega))
  rw [decide_eq_false h35, br_fq]
  by_cases h43 : k = 43
  · rw [show decide (k = 43) = true from decide_eq_true h43, br_tq]
    exact jn _ _ (Or.inl h43)
  rw [show decide (k = 43) = false from decide_eq_false h43, br_fq]
  by_cases h44 : k = 44
  · rw [show decide (k = 44) = true from decide_eq_true h44, br_tq]
    exact jn _ _ (Or.inr h44)
  rw [show decide (k = 44) = false from decide_eq_false h44, br_fq]
  exact two _ _ _ (no (by omega))
theorem sgw_lp (hl : n2 ≤ 8015) : ∀ {l : List Nat} {am om : Int32} {p p2 : Nat} {sc sc2 : SCT} {X : Nat} {Rf Zf : Bool} {BC : MS → Prop}, SGW N K nm gd m2 lo n2 W l am om p p2 sc sc2 X Rf Zf BC → STB BC → ∀ (d M : Nat) (m3 : MS) (cm : Nat) (ac oc : Int32), (∀ j, lo < j → j ≤ n2 → nod m3 j = nod m2 j ∧ m3.2.2.1 21 j = m2.2.2.1 21 j) → Kcc m2 m3 → CPR nm gd p p2 sc cm m3 → PK (fun m4 (_ : Unit) => CPO K nm p p2 sc sc2 X W Rf Zf BC cm m3 m4) (hg_Cm_signs N (hrc_Cm_fun N d) M m3 ac am oc om (I ((l.headD 0 : Nat) : Int)))
  | _, _, _, _, _, _, _, _, _, _, _, _, _, _, 0, _, _, _, _, _, _, _ => pk_none
  | [], am, om, p, p2, sc, sc2, X, Rf, Zf, BC, ⟨h1, h2, h3, h4, h5, h6⟩, _, d, M + 1, m3, cm, ac, oc, _, _, cp => by
    subst h1
    subst h2
    subst h3
    subst h4
    subst h5
    show PK _ (hb_Cm_signs_13 N (hrc_Cm_fun N d) (hg_Cm_signs N (hrc_Cm_fun N d) M) m3 ac am oc om 0)
    unfold hb_Cm_signs_13
    rw [show decide ((0 : Int32) = 0) = true from rfl, br_tq]
    refine pk_some (CPO_ok ⟨rfl, h6 m3⟩ ?_)
    rw [Nat.max_eq_left (Nat.zero_le cm), wup_0 (fun j h1 h2 => absurd h2 (by omega))]
    exact CPR_0 cp
  | ν :: l, am, om, p, p2, sc, sc2, X, Rf, Zf, BC, ⟨hν, h21, h⟩, sB, d, M + 1, m3, cm, ac, oc, k1, k2, cp => by
    have kx : KPX lo n2 ν m2 m3 := ⟨fun j h0 hj => ⟨(k1 j h0 hj).1, fun _ => (k1 j h0 hj).2⟩, k2⟩
    have en := (k1 ν hν.1 hν.2).1
    have e16 : m3.2.2.1 16 ν = m2.2.2.1 16 ν := (Prod.mk.inj en).1
    have e17 : m3.2.2.1 17 ν = m2.2.2.1 17 ν := (Prod.mk.inj (Prod.mk.inj en).2).1
    have e18 : m3.2.2.1 18 ν = m2.2.2.1 18 ν := (Prod.mk.inj (Prod.mk.inj (Prod.mk.inj en).2).2).1
    have kv : ∀ w, FRC m3 w → (∀ j, lo < j → j ≤ n2 → nod w j = nod m2 j ∧ w.2.2.1 21 j = m2.2.2.1 21 j) ∧ Kcc m2 w := fun w fr => by
      have k1w := KPX_f kx fr
      refine ⟨fun j h0 hj => ⟨(k1w.1 j h0 hj).1, ?_⟩, k1w.2⟩
      rw [fr.2 21 (by omega)]
      exact (k1 j h0 hj).2
    have go : ∀ (w : MS) (ac am oc om : Int32), FRC m3 w → hb_Cm_signs_198 N (hrc_Cm_fun N d) (hg_Cm_signs N (hrc_Cm_fun N d) M) w ac am oc om (I (ν : Nat)) = ck (inb (I (ν : Nat)) 8016) (hg_Cm_signs N (hrc_Cm_fun N d) M w ac am oc om (I ((l.headD 0 : Nat) : Int))) := fun w ac am oc om fr => by
      unfold hb_Cm_signs_198
      rw [tnI (n := ν) rfl (by omega), ((kv w fr).1 ν hν.1 hν.2).2, h21]
    show PK _ (hb_Cm_signs_13 N (hrc_Cm_fun N d) (hg_Cm_signs N (hrc_Cm_fun N d) M) m3 ac am oc om (I (ν : Nat)))
    unfold hb_Cm_signs_13
    rw [decide_eq_false (p := I (ν : Nat) = 0) (fun z => by have := (I_eq (x := (ν : Nat)) (y := 0) (by omega) (by omega) (by omega) (by omega)).mp z; omega), br_fq, tnI (n := ν) rfl (by omega), e16, e18]
    refine pk_ck (fun _ => pk_ck (fun _ => ?_))
    rcases h with ⟨q, q2, sc1, X1, X2, R1, R2, Z1, Z2, B1, B2, h1, g1, ⟨mi, li, ni, k, hE, hx, hni, hk16, hk⟩, h5, h6, h7, h8, h9, h10, h11⟩ | ⟨h24, ⟨h6, h⟩ | ⟨h6, h⟩⟩ | ⟨h23, k, hk18, hk, ⟨hk6, b, e1, t1, hs, hb, hm, h⟩ | ⟨hk6, tk, R2, h17, htk, h, hR⟩⟩
    · subst h7
      subst h8
      subst h9
      obtain ⟨a1, a2, a3⟩ := SGW_len h6
      rw [hk16, I_dn (a := k) (b := 24) (s := 24) (by omega) (by decide) rfl, decide_eq_false (by omega : ¬ k = 24), br_fq]
      unfold hb_Cm_signs_82
      rw [I_dn (a := k) (b := 24) (s := 24) (by omega) (by decide) rfl, decide_eq_false (by omega : ¬ k = 24), br_fq, I_dn (a := k) (b := 23) (s := 23) (by omega) (by decide) rfl, decide_eq_false (by omega : ¬ k = 23), br_fq]
      refine pk_mo (Q := fun u (_ : Unit) => CPO K nm q p2 sc sc2 (max X1 X2) W (R1 || R2) (Z1 || Z2) (fun m => B1 m ∨ B2 m) cm m3 u) ?_ (fun v _ qq => CPO_bc (h10 m3) (CPO_ext ⟨h1.1, by omega, Nat.le_refl _⟩ g1 (fun j y1 y2 => absurd y2 (by omega)) qq))
      refine cpo_bnd (hE d m3 cm 0 (KPX_tr hx kx hni.2 hni.1) (CPR_in cp (by omega))) ⟨h1.2.1, h1.2.2⟩ h11 h5.2.1 (fun v r9 hv => ?_) (fun v r9 hv hn => ?_)
      · obtain ⟨hS0, hS1, hS2, hS3, hS4, hS5, hS6, hS7, hS8, hS9, hS10, hS11, hS12⟩ := yz_hrc_Cm_fun (u0 := v) (N := N) d
        unfold hb_Cm_signs_198
        repeat' (first | with_reducible assumption | with_reducible refine Kz_br ?_ ?_ | with_reducible refine Kz_bnd ?_ (fun _ _ _ => ?_) | with_reducible refine Kz_ck ?_ | with_reducible refine Kz_ltm ?_ (fun _ _ => ?_) | with_reducible refine Kz_some ?_ | with_reducible exact yz_hm_Cm_notInGuard (by assumption) | with_reducible exact yz_hr_Cm_pattern (by assumption) | with_reducible exact yz_hm_Cm_forget (by assumption) | with_reducible exact yz_hm_Co_arrive (by assumption) | with_reducible exact yz_hm_Cm_funOf (by assumption) | with_reducible exact yz_hm_Co_hook (by assumption) | with_reducible exact yz_hm_Co_put (by assumption) | with_reducible exact yz_hm_Cm_term (by assumption) | with_reducible exact yz_hm_Cm_string (by assumption) | with_reducible exact yz_hm_Co_seek (by assumption) | with_reducible exact yz_hm_Cm_predefinedOf (by assumption) | with_reducible exact yz_hm_Cm_fault (by assumption) | with_reducible exact yz_hm_Cm_joining (by assumption) | with_reducible exact yz_hm_Cm_hold (by assumption) | with_reducible exact yz_hm_Co_set (by assumption) | with_reducible exact yz_hm_Tr_length (by assumption) | with_reducible exact hS0 _ _ (by assumption) | with_reducible exact hS1 _ _ _ (by assumption) | with_reducible exact hS2 _ _ _ _ _ (by assumption) | with_reducible exact hS3 _ _ _ (by assumption) | with_reducible exact hS4 _ _ _ (by assumption) | with_reducible exact hS5 _ _ _ (by assumption) | with_reducible exact hS6 _ _ _ (by assumption) | with_reducible exact hS7 _ _ (by assumption) | with_reducible exact hS8 _ _ (by assumption) | with_reducible exact hS9 _ _ (by assumption) | with_reducible exact hS10 _ _ _ (by assumption) | with_reducible exact hS11 _ _ _ (by assumption) | with_reducible exact hS12 _ _ _ _ (by assumption) | with_reducible exact yz_hg_Cm_apply hS0 hS1 hS2 hS3 hS4 hS5 hS6 hS7 hS8 hS9 hS10 hS11 hS12 _ _ _ _ _ (by assumption) | with_reducible exact yz_hg_Cm_row hS0 hS1 hS2 hS3 hS4 hS5 hS6 hS7 hS8 hS9 hS10 hS11 hS12 _ _ _ (by assumption) | with_reducible exact yz_hg_Cm_signs hS0 hS1 hS2 hS3 hS4 hS5 hS6 hS7 hS8 hS9 hS10 hS11 hS12 _ _ _ _ _ _ _ (by assumption) | with_reducible exact yz_hg_Cm_body hS0 hS1 hS2 hS3 hS4 hS5 hS6 hS7 hS8 hS9 hS10 hS11 hS12 _ _ _ _ (by assumption) | with_reducible exact yz_hg_Cm_parts hS0 hS1 hS2 hS3 hS4 hS5 hS6 hS7 hS8 hS9 hS10 hS11 hS12 _ _ _ _ _ _ _ (by assumption) | with_reducible exact (yz_hg_Cm_tries hS0 hS1 hS2 hS3 hS4 hS5 hS6 hS7 hS8 hS9 hS10 hS11 hS12 _).1 _ _ _ _ _ (by assumption) | with_reducible exact (yz_hg_Cm_tries hS0 hS1 hS2 hS3 hS4 hS5 hS6 hS7 hS8 hS9 hS10 hS11 hS12 _).2 _ _ _ _ (by assumption) | with_reducible refine Kz_ltv (fun _ => ?_) | with_reducible refine Kz_I ?_ (by decide) | with_reducible refine Kz_A ?_ (by decide))
      · have fr := hn.2.2.2.2.2.2.2.2
        rw [go v _ _ _ _ fr]
        have kk := kv v fr
        exact pk_ck (fun _ => sgw_lp hl h6 h11 d M v (max cm X1) ac oc kk.1 kk.2 (CPR_2 (p := q) (p2 := p2) (q := q2) (CPR_in cp (by omega)) hn h5.2.1 h5.2.2 (by have := cp.2.2.2.2.2.2; omega)))
    · rw [h24, h6, show decide (I ((24 : Nat) : Int) = 24) = true from rfl, br_tq, show decide (I ((6 : Nat) : Int) = 6) = true from rfl, br_tq]
      refine pk_bnd (fun w1 r1 x1 => pk_bnd (fun w2 r2 x2 => ?_))
      have f2 := yu_hm_Co_hook (u0 := m3) (yu_hm_Co_put (u0 := m3) Ku_rf w1 r1 x1) w2 r2 x2
      show PK _ (hb_Cm_signs_198 N _ _ w2 _ _ _ _ _)
      rw [go w2 _ _ _ _ (FRC_u f2), f2.1 706 (by decide), cp.2.1.2.2.1]
      have kk := kv w2 (FRC_u f2)
      exact pk_ck (fun _ => pk_mo (sgw_lp hl h sB d M w2 cm _ _ kk.1 kk.2 (CPR_u cp f2)) (fun u _ z => CPO_v f2 sB z))
    · rw [h24, h6, show decide (I ((24 : Nat) : Int) = 24) = true from rfl, br_tq, show decide (I ((16 : Nat) : Int) = 6) = false from rfl, br_fq]
      unfold hb_Cm_signs_82
      rw [show decide (I ((24 : Nat) : Int) = 24) = true from rfl, br_tq]
      refine pk_bnd (fun w1 r1 x1 => pk_bnd (fun w2 r2 x2 => ?_))
      have f2 := yu_hm_Co_hook (u0 := m3) (yu_hm_Co_put (u0 := m3) Ku_rf w1 r1 x1) w2 r2 x2
      show PK _ (hb_Cm_signs_198 N _ _ w2 _ _ _ _ _)
      rw [go w2 _ _ _ _ (FRC_u f2), f2.1 706 (by decide), cp.2.1.2.2.1]
      have kk := kv w2 (FRC_u f2)
      exact pk_ck (fun _ => pk_mo (sgw_lp hl h sB d M w2 cm _ _ kk.1 kk.2 (CPR_u cp f2)) (fun u _ z => CPO_v f2 sB z))
    · subst hs
      rw [h23, show decide (I ((23 : Nat) : Int) = 24) = false from rfl, br_fq]
      unfold hb_Cm_signs_82
      rw [show decide (I ((23 : Nat) : Int) = 24) = false from rfl, br_fq, show decide (I ((23 : Nat) : Int) = 23) = true from rfl, br_tq, hk18]
      have key : ∀ (ch mk : Int32), mk = I ((tot t1 + b : Nat) : Int) → PK (fun m4 (_ : Unit) => CPO K nm p p2 (e1 :: t1) sc2 X W Rf Zf BC cm m3 m4) (bnd (hm_Cm_forget N m3 mk) (fun u16 r16 => bnd (hm_Co_arrive N u16 ch) (fun u18 r18 => hb_Cm_signs_198 N (hrc_Cm_fun N d) (hg_Cm_signs N (hrc_Cm_fun N d) M) u18 ac am oc om (I (ν : Nat))))) := fun ch mk hmk => by
        refine pk_bnd (pk_mo fgt_v (fun w1 _ qw => ?_))
        obtain ⟨w0, kw, rfl⟩ := qw
        have cp4 := CPR_cut (mk := mk) cp kw hb hmk
        obtain ⟨z1, z2, z3, z4, z5⟩ := fgt_b (mk := mk) kw
        generalize upI w0 706 mk = w1 at cp4 z1 z2 z3 z4 z5
        refine pk_bnd (fun w2 r2 x2 => ?_)
        have f2 := yu_hm_Co_arrive (u0 := w1) Ku_rf w2 r2 x2
        have fr2 := FRC_tr z4 (FRC_u f2)
        show PK _ (hb_Cm_signs_198 N _ _ w2 _ _ _ _ _)
        rw [go w2 _ _ _ _ fr2]
        have kk := kv w2 fr2
        exact pk_ck (fun _ => pk_mo (sgw_lp hl h sB d M w2 cm _ _ kk.1 kk.2 (CPR_u cp4 f2)) (fun u _ z => CPO_b cutS_len z1 z2 z3 z4 z5 sB (CPO_v f2 sB z)))
      rcases hk6 with rfl | rfl
      · rw [show decide (I ((6 : Nat) : Int) = 6) = true from rfl, br_tq]
        exact key _ _ hm
      · rw [show decide (I ((16 : Nat) : Int) = 6) = false from rfl, br_fq, show decide (I ((16 : Nat) : Int) = 16) = true from rfl, br_tq]
        exact key _ _ hm
    · subst hR
      rw [h23, show decide (I ((23 : Nat) : Int) = 24) = false from rfl, br_fq]
      unfold hb_Cm_signs_82
      rw [show decide (I ((23 : Nat) : Int) = 24) = false from rfl, br_fq, show decide (I ((23 : Nat) : Int) = 23) = true from rfl, br_tq, hk18, I_dn (a := k) (b := 6) (s := 6) (by omega) (by decide) rfl, decide_eq_false hk6.1, br_fq, I_dn (a := k) (b := 16) (s := 16) (by omega) (by decide) rfl, decide_eq_false hk6.2, br_fq, tnI (n := ν) rfl (by omega), e17, h17]
      refine pk_ck (fun _ => pk_bnd (pk_mo (joi_p hk htk cp) (fun v _ qv => ?_)))
      rcases qv with ⟨qv1, f2⟩ | ⟨qv1, qv2, qv3⟩
      · rw [go v _ _ _ _ (FRC_u f2), qv1, Bool.false_or]
        have kk := kv v (FRC_u f2)
        exact pk_ck (fun _ => pk_mo (sgw_lp hl h sB d M v cm _ _ kk.1 kk.2 (CPR_u cp f2)) (fun u _ z => CPO_v f2 sB z))
      · refine pk_mo (Q := fun w (_ : Unit) => Kzc v w) ?_ (fun w _ z => CPO_z (v := v) ⟨Or.inl (by rw [qv1]; rfl), qv2, qv3⟩ z)
        intro w r x
        have hv : Kzc v v := ⟨qv2, FRC_rf⟩
        refine (?_ : KzE v _) w r x
        obtain ⟨hS0, hS1, hS2, hS3, hS4, hS5, hS6, hS7, hS8, hS9, hS10, hS11, hS12⟩ := yz_hrc_Cm_fun (u0 := v) (N := N) d
        unfold hb_Cm_signs_198
        repeat' (first | with_reducible assumption | with_reducible refine Kz_br ?_ ?_ | with_reducible refine Kz_bnd ?_ (fun _ _ _ => ?_) | with_reducible refine Kz_ck ?_ | with_reducible refine Kz_ltm ?_ (fun _ _ => ?_) | with_reducible refine Kz_some ?_ | with_reducible exact yz_hm_Cm_notInGuard (by assumption) | with_reducible exact yz_hr_Cm_pattern (by assumption) | with_reducible exact yz_hm_Cm_forget (by assumption) | with_reducible exact yz_hm_Co_arrive (by assumption) | with_reducible exact yz_hm_Cm_funOf (by assumption) | with_reducible exact yz_hm_Co_hook (by assumption) | with_reducible exact yz_hm_Co_put (by assumption) | with_reducible exact yz_hm_Cm_term (by assumption) | with_reducible exact yz_hm_Cm_string (by assumption) | with_reducible exact yz_hm_Co_seek (by assumption) | with_reducible exact yz_hm_Cm_predefinedOf (by assumption) | with_reducible exact yz_hm_Cm_fault (by assumption) | with_reducible exact yz_hm_Cm_joining (by assumption) | with_reducible exact yz_hm_Cm_hold (by assumption) | with_reducible exact yz_hm_Co_set (by assumption) | with_reducible exact yz_hm_Tr_length (by assumption) | with_reducible exact hS0 _ _ (by assumption) | with_reducible exact hS1 _ _ _ (by assumption) | with_reducible exact hS2 _ _ _ _ _ (by assumption) | with_reducible exact hS3 _ _ _ (by assumption) | with_reducible exact hS4 _ _ _ (by assumption) | with_reducible exact hS5 _ _ _ (by assumption) | with_reducible exact hS6 _ _ _ (by assumption) | with_reducible exact hS7 _ _ (by assumption) | with_reducible exact hS8 _ _ (by assumption) | with_reducible exact hS9 _ _ (by assumption) | with_reducible exact hS10 _ _ _ (by assumption) | with_reducible exact hS11 _ _ _ (by assumption) | with_reducible exact hS12 _ _ _ _ (by assumption) | with_reducible exact yz_hg_Cm_apply hS0 hS1 hS2 hS3 hS4 hS5 hS6 hS7 hS8 hS9 hS10 hS11 hS12 _ _ _ _ _ (by assumption) | with_reducible exact yz_hg_Cm_row hS0 hS1 hS2 hS3 hS4 hS5 hS6 hS7 hS8 hS9 hS10 hS11 hS12 _ _ _ (by assumption) | with_reducible exact yz_hg_Cm_signs hS0 hS1 hS2 hS3 hS4 hS5 hS6 hS7 hS8 hS9 hS10 hS11 hS12 _ _ _ _ _ _ _ (by assumption) | with_reducible exact yz_hg_Cm_body hS0 hS1 hS2 hS3 hS4 hS5 hS6 hS7 hS8 hS9 hS10 hS11 hS12 _ _ _ _ (by assumption) | with_reducible exact yz_hg_Cm_parts hS0 hS1 hS2 hS3 hS4 hS5 hS6 hS7 hS8 hS9 hS10 hS11 hS12 _ _ _ _ _ _ _ (by assumption) | with_reducible exact (yz_hg_Cm_tries hS0 hS1 hS2 hS3 hS4 hS5 hS6 hS7 hS8 hS9 hS10 hS11 hS12 _).1 _ _ _ _ _ (by assumption) | with_reducible exact (yz_hg_Cm_tries hS0 hS1 hS2 hS3 hS4 hS5 hS6 hS7 hS8 hS9 hS10 hS11 hS12 _).2 _ _ _ _ (by assumption) | with_reducible refine Kz_ltv (fun _ => ?_) | with_reducible refine Kz_I ?_ (by decide) | with_reducible refine Kz_A ?_ (by decide))
theorem exn_sig {am om : Int32} (hn : nod m2 ν = (I ((22 : Nat) : Int), a, I ((l.headD 0 : Nat) : Int), c, e)) (hlo : lo < ν) (hν : ν ≤ n2) (hl : n2 ≤ 8015) (hq : p ≤ q ∧ q ≤ q2 ∧ q2 ≤ p2) (g1 : ∀ j, p ≤ j → j < q → K j ≠ 3) (g2 : ∀ j, q2 ≤ j → j < p2 → K j ≠ 3) (h : SGW N K nm gd m1 lo n1 W l 0 0 q q2 sc sc2 X Rf Zf BC) (sB : STB BC) (h1 : KPO n1 m1 m2) (hk : Kcc m1 m2) (hn1 : n1 < ν) : EXN N K nm gd m2 lo n2 ν p p2 sc sc2 X W Rf Zf BC := by
  intro d m3 cm last kx cp
  cases d with
  | zero => exact pk_none
  | succ d =>
    have e0 := KPX_nod kx hlo hν
    rw [hn] at e0
    have e1 : m3.2.2.1 16 ν = I ((22 : Nat) : Int) := (Prod.mk.inj e0).1
    have e3 : m3.2.2.1 18 ν = I ((l.headD 0 : Nat) : Int) := (Prod.mk.inj (Prod.mk.inj (Prod.mk.inj e0).2).2).1
    show PK _ (hm_Cm_expression N (hrc_Cm_fun N d) m3 (I (ν : Nat)) last)
    unfold hm_Cm_expression hb_Cm_expression_0 hb_Cm_expression_359
    rw [tnI (n := ν) rfl (by omega), e1, e3]
    refine pk_ck (fun _ => pk_ck (fun _ => ?_))
    rw [show decide (I ((22 : Nat) : Int) = 1) = false from rfl, br_fq, show decide (I ((22 : Nat) : Int) = 2) = false from rfl, br_fq, show decide (I ((22 : Nat) : Int) = 3) = false from rfl, br_fq, show decide (I ((22 : Nat) : Int) = 4) = false from rfl, br_fq, show decide (I ((22 : Nat) : Int) = 5) = false from rfl, br_fq, show decide (I ((22 : Nat) : Int) = 6) = false from rfl, br_fq, show decide (I ((22 : Nat) : Int) = 7) = false from rfl, br_fq, show decide (I ((22 : Nat) : Int) = 8) = false from rfl, br_fq, show decide (I ((22 : Nat) : Int) = 9) = false from rfl, br_fq, show decide (I ((22 : Nat) : Int) = 10) = false from rfl, br_fq, show decide (I ((22 : Nat) : Int) = 11) = false from rfl, br_fq, show decide (I ((22 : Nat) : Int) = 12) = false from rfl, br_fq, show decide (I ((22 : Nat) : Int) = 13) = false from rfl, br_fq, show decide (I ((22 : Nat) : Int) = 14) = false from rfl, br_fq, show decide (I ((22 : Nat) : Int) = 15) = false from rfl, br_fq, show decide (I ((22 : Nat) : Int) = 16) = false from rfl, br_fq, show decide (I ((22 : Nat) : Int) = 17) = false from rfl, br_fq, show decide (I ((22 : Nat) : Int) = 18) = false from rfl, br_fq, show decide (I ((22 : Nat) : Int) = 19) = false from rfl, br_fq, show decide (I ((22 : Nat) : Int) = 20) = false from rfl, br_fq, show decide (I ((22 : Nat) : Int) = 21) = false from rfl, br_fq, show decide (I ((22 : Nat) : Int) = 22) = true from rfl, br_tq]
    refine pk_ck (fun _ => ?_)
    cases d with
    | zero => exact pk_none
    | succ d =>
      have kk := chi_k h1 hk hn1 hν kx
      exact pk_bnd (pk_mo (sgw_lp (by omega) h sB d N m3 cm 0 0 kk.1 kk.2 (CPR_in cp (by omega))) (fun v _ q => pk_some (CPO_ext hq g1 g2 q)))
end
end
section
set_option maxRecDepth 100000
def ND (w : MS) : Prop := ∃ a : Nat, w.1 32 = I (a : Nat) ∧ a ≤ 100000
def SMI : List Nat := [5, 9, 10, 11, 14, 17, 20, 65, 66, 67, 70, 72, 73, 75, 77, 83]
def SMX (k : Nat) : Prop := k < 23 ∨ (59 ≤ k ∧ k ≤ 64) ∨ k = 74 ∨ k = 76 ∨ (79 ≤ k ∧ k ≤ 82)
def SMS (w v : MS) : Prop := (∀ k, k ∈ SMI → v.1 k = w.1 k) ∧ (∀ k, SMX k → v.2.2.1 k = w.2.2.1 k) ∧ ∀ a : Nat, w.1 32 = I (a : Nat) → a ≤ 100000 → ∃ b : Nat, (v.1 32 = I (b : Nat) ∧ a ≤ b ∧ b ≤ 100000) ∧ NKP a w v ∧ ∀ j, a ≤ j → j < b → v.2.2.1 23 j ≠ 12 ∧ v.2.2.1 23 j ≠ 15
section
variable {α : Type} {Nk K W W2 : Nat → Nat} {p p2 p3 q q2 X Y a b c N k : Nat} {sc sc2 sc3 : SCT} {Rf Zf Rg Zg : Bool} {CL CM : Int32 × Int32 × Int32 → Prop} {w v u : MS} {x y : Int32} {g : Nat → Int32}
theorem SMS_rf : SMS w w := ⟨fun _ _ => rfl, fun _ _ => rfl, fun a h1 h2 => ⟨a, ⟨h1, Nat.le_refl _, h2⟩, NKP_rf, fun j h3 h4 => by omega⟩⟩
theorem SMS_nd (h : SMS w v) (n : ND w) : ND v := by
  obtain ⟨a, h1, h2⟩ := n
  obtain ⟨b, h3, -⟩ := h.2.2 a h1 h2
  exact ⟨b, h3.1, h3.2.2⟩
theorem SMS_tr (h : SMS w v) (k : SMS v u) : SMS w u := by
  refine ⟨fun j hj => (k.1 j hj).trans (h.1 j hj), fun j hj => (k.2.1 j hj).trans (h.2.1 j hj), fun a h1 h2 => ?_⟩
  obtain ⟨b, h3, h4, h5⟩ := h.2.2 a h1 h2
  obtain ⟨c, k3, k4, k5⟩ := k.2.2 b h3.1 h3.2.2
  refine ⟨c, ⟨k3.1, by omega, k3.2.2⟩, NKP_tr h4 k4 h3.2.1, fun j hj1 hj2 => ?_⟩
  by_cases z : j < b
  · rw [(k4 j z).1]; exact h5 j hj1 z
  · exact k5 j (by omega) hj2
theorem SMS_I (h : SMS w v) (hk : k ∉ SMI) (hk2 : k ≠ 32) : SMS w (upI v k x) := by
  refine ⟨fun j hj => ?_, fun j hj => h.2.1 j hj, fun a h1 h2 => ?_⟩
  · rw [upI_ne (by rintro rfl; exact hk hj)]; exact h.1 j hj
  · obtain ⟨b, h3, h4, h5⟩ := h.2.2 a h1 h2
    exact ⟨b, ⟨by rw [upI_ne (Ne.symm hk2)]; exact h3.1, h3.2⟩, h4, h5⟩
theorem SMS_A (h : SMS w v) (hk : ¬ SMX k) (hk2 : k ≠ 23 ∧ k ≠ 25 ∧ k ≠ 26 ∧ k ≠ 27) : SMS w (upA v k g) := by
  refine ⟨fun j hj => h.1 j hj, fun j hj => ?_, fun a h1 h2 => ?_⟩
  · rw [upA_no (by rintro rfl; exact hk hj)]; exact h.2.1 j hj
  · obtain ⟨b, h3, h4, h5⟩ := h.2.2 a h1 h2
    refine ⟨b, h3, fun j hj => ?_, fun j hj1 hj2 => ?_⟩
    · rw [upA_no (Ne.symm hk2.1), upA_no (Ne.symm hk2.2.1), upA_no (Ne.symm hk2.2.2.1), upA_no (Ne.symm hk2.2.2.2)]; exact h4 j hj
    · rw [upA_no (Ne.symm hk2.1)]; exact h5 j hj1 hj2
theorem SMS_J {gj : Nat → Int64} (h : SMS w v) : SMS w (upJ v k gj) := ⟨h.1, h.2.1, h.2.2⟩
theorem SMS_B (h : SMS w v) (hk : k = 25 ∨ k = 26 ∨ k = 27) (hc : v.2.2.1 23 a ≠ 12 ∧ v.2.2.1 23 a ≠ 15) : SMS w (upA v k (upd (v.2.2.1 k) a x)) := by
  have n23 : (upA v k (upd (v.2.2.1 k) a x)).2.2.1 23 = v.2.2.1 23 := upA_no (by omega)
  have oth : ∀ i, ∀ j, j ≠ a → (upA v k (upd (v.2.2.1 k) a x)).2.2.1 i j = v.2.2.1 i j := fun i j hj => by
    by_cases e : i = k
    · subst e; rw [upA_at, upd_no hj]
    · rw [upA_no e]
  refine ⟨fun j hj => h.1 j hj, fun j hj => ?_, fun a' h1 h2 => ?_⟩
  · rw [upA_no (by unfold SMX at hj; omega)]; exact h.2.1 j hj
  · obtain ⟨b, h3, h4, h5⟩ := h.2.2 a' h1 h2
    refine ⟨b, h3, fun j hj => ?_, fun j hj1 hj2 => by rw [n23]; exact h5 j hj1 hj2⟩
    rw [n23]
    refine ⟨(h4 j hj).1, fun z => ?_⟩
    have ne : j ≠ a := by
      intro e; subst e
      rw [← (h4 j hj).1] at z
      rcases z with z | z
      · exact hc.1 z
      · exact hc.2 z
    rw [oth 25 j ne, oth 26 j ne, oth 27 j ne]
    exact (h4 j hj).2 z
def NDI (w : MS) (a : Nat) (s : MS) : Prop := s.1 = w.1 ∧ (∀ k j, j ≠ a → s.2.2.1 k j = w.2.2.1 k j) ∧ ∀ k, k < 23 ∨ 30 < k → s.2.2.1 k = w.2.2.1 k
theorem nd_st {Q : MS → Int32 → Prop} {f : MS → Option (MS × Int32)} {n : Nat} {s : MS} (tn : (w.1 32).toNatClampNeg = a) (hk : 23 ≤ k ∧ k ≤ 30) (h : NDI w a s) (h2 : ∀ s', NDI w a s' → (k ≠ 23 → s'.2.2.1 23 = s.2.2.1 23) → s'.2.2.1 k a = y → PK Q (f s')) : PK Q (ck (inb (s.1 32) n) (lt (upA s k (upd (s.2.2.1 k) (s.1 32).toNatClampNeg y)) f)) := by
  refine pk_ck (fun _ => pk_ltq ?_)
  have e : (s.1 32).toNatClampNeg = a := by rw [h.1]; exact tn
  rw [e]
  refine h2 _ ⟨h.1, fun i j hj => ?_, fun i hi => ?_⟩ (fun z => upA_no (Ne.symm z)) (by rw [upA_at, upd_at])
  · by_cases z : i = k
    · subst z; rw [upA_at, upd_no hj]; exact h.2.1 i j hj
    · rw [upA_no z]; exact h.2.1 i j hj
  · rw [upA_no (by omega)]; exact h.2.2 i hi
theorem node_p {kd tk : Int32} : PK (fun v r => ∃ a : Nat, (w.1 32 = I (a : Nat) ∧ a < 16000 ∧ r = I (a : Nat) ∧ v.1 32 = I ((a + 1 : Nat) : Int)) ∧ v.2.2.1 23 a = vp_nar .byte (kd.toInt8.toInt32) ∧ (∀ k j, j ≠ a → v.2.2.1 k j = w.2.2.1 k j) ∧ (∀ k, k ≠ 32 → v.1 k = w.1 k) ∧ ∀ k, k < 23 ∨ 30 < k → v.2.2.1 k = w.2.2.1 k) (fm_M_node N w kd tk) := by
  show PK _ (fb_M_node_0 N () w kd tk)
  unfold fb_M_node_0
  by_cases z : inb (w.1 32) (ln 23) = true
  · have z2 : inb (I (F w 32)) (ln 23) = true := by rw [← I_F]; exact z
    have z3 := (I_inb (n := ln 23) (x := F w 32) (by unfold F; exact Int32.le_toInt _) (by unfold F; exact Int32.toInt_lt _)).mp z2
    have l23 : ln 23 = 16000 := rfl
    rw [l23] at z3
    obtain ⟨a, ea, ha⟩ : ∃ a : Nat, w.1 32 = I (a : Nat) ∧ a < 16000 := ⟨(F w 32).toNat, by rw [show (((F w 32).toNat : Nat) : Int) = F w 32 by omega]; exact I_F, by omega⟩
    have tn : (w.1 32).toNatClampNeg = a := by rw [ea]; exact tnI rfl (by omega)
    refine nd_st (a := a) tn (by decide) ⟨rfl, fun _ _ _ => rfl, fun _ _ => rfl⟩ (fun s1 q1 _ y1 => ?_)
    refine nd_st (a := a) tn (by decide) q1 (fun s2 q2 k2 _ => ?_)
    refine nd_st (a := a) tn (by decide) q2 (fun s3 q3 k3 _ => ?_)
    refine nd_st (a := a) tn (by decide) q3 (fun s4 q4 k4 _ => ?_)
    refine nd_st (a := a) tn (by decide) q4 (fun s5 q5 k5 _ => ?_)
    refine nd_st (a := a) tn (by decide) q5 (fun s6 q6 k6 _ => ?_)
    refine nd_st (a := a) tn (by decide) q6 (fun s7 q7 k7 _ => ?_)
    refine nd_st (a := a) tn (by decide) q7 (fun s8 q8 k8 _ => ?_)
    refine pk_ltq (pk_some ⟨a, ⟨ea, ha, ?_, ?_⟩, ?_, q8.2.1, fun k hk => ?_, q8.2.2⟩)
    · show (upI s8 32 (s8.1 32 + 1)).1 32 - 1 = _
      rw [upI_at, q8.1, ea]; exact Int32.add_sub_cancel _ _
    · rw [upI_at, q8.1, ea]; exact i_suc
    · show s8.2.2.1 23 a = _
      rw [k8 (by decide), k7 (by decide), k6 (by decide), k5 (by decide), k4 (by decide), k3 (by decide), k2 (by decide)]
      exact y1
    · rw [upI_ne hk, q8.1]
  · exact pk_ck (fun y => absurd y z)
theorem node_s {kd tk : Int32} (hk : vp_nar .byte (kd.toInt8.toInt32) ≠ 12 ∧ vp_nar .byte (kd.toInt8.toInt32) ≠ 15) : PK (fun v r => SMS w v ∧ v.1 69 = w.1 69 ∧ v.1 84 = w.1 84 ∧ ∃ a : Nat, (w.1 32 = I (a : Nat) ∧ a < 16000) ∧ r = I (a : Nat) ∧ v.1 32 = I ((a + 1 : Nat) : Int) ∧ v.2.2.1 23 a = vp_nar .byte (kd.toInt8.toInt32) ∧ r.toNatClampNeg = a) (fm_M_node N w kd tk) := by
  refine pk_mo node_p ?_
  rintro v r ⟨a, ⟨h1, h2, h3, h4⟩, h5, h6, h7, h8⟩
  refine ⟨⟨fun k hk => h7 k (by rintro rfl; revert hk; decide), fun k hk => h8 k (by unfold SMX at hk; omega), fun a' e1 _ => ?_⟩, h7 69 (by decide), h7 84 (by decide), a, ⟨h1, h2⟩, h3, h4, h5, by rw [h3]; exact tnI rfl (by omega)⟩
  have e : a' = a := by
    have := e1.symm.trans h1
    have := (I_eq (x := (a' : Nat)) (y := (a : Nat)) (by omega) (by omega) (by omega) (by omega)).mp this
    omega
  subst e
  refine ⟨a' + 1, ⟨h4, by omega, by omega⟩, fun j hj => ⟨h6 23 j (by omega), fun _ => ⟨h6 25 j (by omega), h6 26 j (by omega), h6 27 j (by omega)⟩⟩, fun j j1 j2 => ?_⟩
  have : j = a' := by omega
  subst this
  rw [h5]; exact hk
theorem STW_s (h : STW Nk K p p2 sc sc2 X W Rf Zf CL w v) (k : SMS v u) : STW Nk K p p2 sc sc2 X W Rf Zf CL w u := by
  obtain ⟨a1, a2, a3, a4, a5, a6, a7, a, b, a8, a9, a10⟩ := h
  obtain ⟨c, k3, k4, k5⟩ := k.2.2 b a8.2.1 a8.2.2.2
  refine ⟨RNs_e a1 (k.1 65 (by decide)) (fun j j1 j2 => k.2.1 j (by unfold SMX; omega)), a2, a3, a4, by rw [k.1 66 (by decide)]; exact a5, by rw [k.1 72 (by decide)]; exact a6, ?_, a, c, ⟨a8.1, k3.1, by omega, k3.2.2⟩, fun x => ?_, NKP_tr a10 k4 a8.2.2.1⟩
  · refine WFE_tr a7 ⟨fun j hj => k.1 j ?_, fun j hj => k.2.1 j (Or.inl hj), fun j _ => by rw [k.2.1 74 (by unfold SMX; omega)], fun j _ => by rw [k.2.1 76 (by unfold SMX; omega)], fun i i1 i2 j _ => by rw [k.2.1 i (by unfold SMX; omega)]⟩
    unfold SMI; simp only [List.mem_cons, List.not_mem_nil, or_false] at hj ⊢; omega
  · rw [CSY_split a8.2.2.1 k3.2.1, CSY_k k4, a9]
    constructor
    · rintro (z | ⟨j, j1, j2, -⟩)
      · exact z
      · exfalso
        rcases j2 with j2 | j2
        · exact (k5 j j1.1 j1.2).1 j2.1
        · exact (k5 j j1.1 j1.2).2 j2.1
    · exact Or.inl
theorem s_STW (n : ND w) (k : SMS w v) (h : STW Nk K p p2 sc sc2 X W Rf Zf CL v u) : STW Nk K p p2 sc sc2 X W Rf Zf CL w u := by
  obtain ⟨a1, a2, a3, a4, a5, a6, a7, a, b, a8, a9, a10⟩ := h
  obtain ⟨a0, n1, n2⟩ := n
  obtain ⟨c, k3, k4, k5⟩ := k.2.2 a0 n1 n2
  have e : c = a := by
    have := k3.1.symm.trans a8.1
    have := (I_eq (x := (c : Nat)) (y := (a : Nat)) (by omega) (by omega) (by omega) (by omega)).mp this
    omega
  subst e
  refine ⟨a1, a2, a3, a4, by rw [← k.1 66 (by decide)]; exact a5, by rw [← k.1 72 (by decide)]; exact a6, ?_, a0, b, ⟨n1, a8.2.1, by omega, a8.2.2.2⟩, fun x => ?_, NKP_tr k4 a10 k3.2.1⟩
  · refine WFE_tr ⟨fun j hj => k.1 j ?_, fun j hj => k.2.1 j (Or.inl hj), fun j _ => by rw [k.2.1 74 (by unfold SMX; omega)], fun j _ => by rw [k.2.1 76 (by unfold SMX; omega)], fun i i1 i2 j _ => by rw [k.2.1 i (by unfold SMX; omega)]⟩ a7
    unfold SMI; simp only [List.mem_cons, List.not_mem_nil, or_false] at hj ⊢; omega
  · rw [CSY_split k3.2.1 a8.2.2.1, a9]
    constructor
    · rintro (⟨j, j1, j2, -⟩ | z)
      · exfalso
        have := (a10 j j1.2).1
        rcases j2 with j2 | j2
        · exact (k5 j j1.1 j1.2).1 (this ▸ j2.1)
        · exact (k5 j j1.1 j1.2).2 (this ▸ j2.1)
      · exact z
    · exact Or.inr
theorem STW_nd (h : STW Nk K p p2 sc sc2 X W Rf Zf CL w v) : ND v := by
  obtain ⟨a1, a2, a3, a4, a5, a6, a7, a, b, a8, a9, a10⟩ := h
  exact ⟨b, a8.2.1, a8.2.2.2⟩
theorem STW_0 (hr : RNs w sc) (n : ND w) : STW Nk K p p sc sc 0 W false false (fun _ => False) w w := by
  obtain ⟨a, n1, n2⟩ := n
  refine ⟨hr, SCX_0 hr, HDs_no (fun j h1 h2 _ => by omega), ⟨by omega, by omega⟩, ?_, by simp, WFE_rf, a, a, ⟨n1, n1, Nat.le_refl _, n2⟩, fun x => ?_, NKP_rf⟩
  · show w.1 66 = 0 ↔ lgS sc 0 (w.1 66) = 0
    rw [lgS_0]
  · constructor
    · rintro ⟨j, j1, -⟩; omega
    · exact False.elim
theorem STW_gap (h : STW Nk K q q2 sc sc2 X W Rf Zf CL w v) (hq : p ≤ q ∧ q2 ≤ p2) (g1 : ∀ j, p ≤ j → j < q → K j ≠ 3) (g2 : ∀ j, q2 ≤ j → j < p2 → K j ≠ 3) : STW Nk K p p2 sc sc2 X W Rf Zf CL w v := by
  obtain ⟨a1, a2, a3, a4, a5, a6, a7, a8⟩ := h
  exact ⟨a1, a2, HDs_ext hq.1 hq.2 g1 g2 a3, ⟨by omega, a4.2⟩, a5, a6, a7, a8⟩
theorem STW_w (hw : ∀ j, p ≤ j → j < p2 → W2 j = W j) (h : STW Nk K p p2 sc sc2 X W Rf Zf CL w v) : STW Nk K p p2 sc sc2 X W2 Rf Zf CL w v := by
  obtain ⟨a1, a2, a3, a4, a5, a6, a7, a8⟩ := h
  exact ⟨a1, a2, HDs_w hw a3, a4, a5, a6, a7, a8⟩
theorem STW_cl (hc : ∀ x, CL x ↔ CM x) (h : STW Nk K p p2 sc sc2 X W Rf Zf CL w v) : STW Nk K p p2 sc sc2 X W Rf Zf CM w v := by
  obtain ⟨a1, a2, a3, a4, a5, a6, a7, a, b, a8, a9, a10⟩ := h
  exact ⟨a1, a2, a3, a4, a5, a6, a7, a, b, a8, fun x => (a9 x).trans (hc x), a10⟩
theorem rule_p {rn tk : Int32} (hr : rn ≠ 0) : PK (fun v (_ : Unit) => v.1 72 ≠ 0 ∧ (∀ k, k ≠ 71 → k ≠ 72 → v.1 k = w.1 k) ∧ v.2.2.1 = w.2.2.1) (fm_M_rule N w rn tk) := by
  show PK _ (fb_M_rule_0 N () w rn tk)
  unfold fb_M_rule_0
  have h31 : PK (fun v (_ : Unit) => v.1 72 ≠ 0 ∧ (∀ k, k ≠ 71 → k ≠ 72 → v.1 k = w.1 k) ∧ v.2.2.1 = w.2.2.1) (fb_M_rule_31 N () w rn tk) := by
    unfold fb_M_rule_31 fb_M_rule_41
    refine pk_ltq (pk_ltq (pk_some ⟨hr, fun k h1 h2 => ?_, rfl⟩))
    rw [upI_ne h1, upI_ne h2]
  refine pk_br (fun _ => h31) (fun z => ?_)
  have z := of_decide_eq_false z
  have h41 : PK (fun v (_ : Unit) => v.1 72 ≠ 0 ∧ (∀ k, k ≠ 71 → k ≠ 72 → v.1 k = w.1 k) ∧ v.2.2.1 = w.2.2.1) (fb_M_rule_41 N () w) := pk_some ⟨z, fun _ _ _ => rfl, rfl⟩
  exact pk_br (fun _ => h31) (fun _ => pk_br (fun _ => pk_br (fun _ => h41) (fun _ => h31)) (fun _ => h41))
theorem STW_rule (h : STW Nk K p p2 sc sc2 X W Rf Zf CL w v) (h72 : u.1 72 ≠ 0) (hi : ∀ k, k ≠ 71 → k ≠ 72 → u.1 k = v.1 k) (hr : u.2.2.1 = v.2.2.1) : STW Nk K p p2 sc sc2 X W true Zf CL w u := by
  obtain ⟨a1, a2, a3, a4, a5, a6, a7, a, b, a8, a9, a10⟩ := h
  refine ⟨RNs_e a1 (hi 65 (by decide) (by decide)) (fun k _ _ => by rw [hr]), a2, a3, a4, by rw [hi 66 (by decide) (by decide)]; exact a5, ⟨fun z => absurd z h72, fun z => absurd z.2 (by decide)⟩, ?_, a, b, ⟨a8.1, by rw [hi 32 (by decide) (by decide)]; exact a8.2.1, a8.2.2⟩, fun x => ?_, ?_⟩
  · refine WFE_tr a7 ⟨fun j hj => hi j (by rintro rfl; revert hj; decide) (by rintro rfl; revert hj; decide), fun j hj => by rw [hr], fun j _ => by rw [hr], fun j _ => by rw [hr], fun i i1 i2 j _ => by rw [hr]⟩
  · rw [← a9]; unfold CSY; rw [hr]
  · unfold NKP; rw [hr]; exact a10
theorem STW_k (hk : k = 70 ∨ k = 73) (h : STW Nk K p p2 sc sc2 X W Rf Zf CL (upI w k x) v) (hy : y = w.1 k) : STW Nk K p p2 sc sc2 X W Rf Zf CL w (upI v k y) := by
  obtain ⟨a1, a2, a3, a4, a5, a6, a7, a, b, a8, a9, a10⟩ := h
  have e66 : (upI w k x).1 66 = w.1 66 := upI_ne (by omega)
  have e72 : (upI w k x).1 72 = w.1 72 := upI_ne (by omega)
  have e32 : (upI w k x).1 32 = w.1 32 := upI_ne (by omega)
  rw [e66] at a5
  rw [e72] at a6
  rw [e32] at a8
  refine ⟨RNs_e a1 (upI_ne (by omega)) (fun _ _ _ => rfl), a2, a3, a4, by rw [upI_ne (by omega)]; exact a5, by rw [upI_ne (by omega)]; exact a6, ⟨fun j hj => ?_, fun j hj => a7.2.1 j hj, fun j hj => a7.2.2.1 j ?_, fun j hj => a7.2.2.2.1 j ?_, fun i i1 i2 j hj => a7.2.2.2.2 i i1 i2 j ?_⟩, a, b, ⟨a8.1, by rw [upI_ne (by omega)]; exact a8.2.1, a8.2.2⟩, fun x => a9 x, a10⟩
  · by_cases e : j = k
    · subst e; rw [upI_at]; exact hy
    · rw [upI_ne e, a7.1 j hj, upI_ne e]
  · rw [upI_ne (by omega)]; exact hj
  · rw [upI_ne (by omega)]; exact hj
  · rw [upI_ne (by omega)]; exact hj
end
end
section
set_option maxRecDepth 100000
def PCG (m v : MS) : Prop := (∀ k, k ∉ [306, 449, 665] → v.1 k = m.1 k) ∧ (∀ k, k < 16 ∨ (21 < k ∧ k ≠ 34) → v.2.2.1 k = m.2.2.1 k) ∧ ∀ j, j < (m.1 664).toNatClampNeg → v.2.2.1 34 j = m.2.2.1 34 j
def mrg (q : Nat) (W W2 : Nat → Nat) : Nat → Nat := fun j => if j < q then W j else W2 j
def STQ (m0 w0 : MS) (K : Nat → Nat) (T : Nat) (Nk : Nat → Nat) (gd : Bool) (mB wB : MS) (p0 n0 : Nat) (sc : SCT) (s : Nat) (m w : MS) (p n : Nat) (sc2 : SCT) (X : Nat) (W : Nat → Nat) (Rf Zf : Bool) (CL : Int32 × Int32 × Int32 → Prop) : Prop := RLP m0 w0 T p m w ∧ (p0 ≤ p ∧ m.1 306 = I (n : Nat) ∧ n0 ≤ n ∧ n + 2 * p0 + s ≤ n0 + 2 * p) ∧ KPO n0 mB m ∧ PCG mB m ∧ STW Nk K p0 p sc sc2 X W Rf Zf CL wB w ∧ (gd = true → Rf = false → tot sc2 = tot sc) ∧ SNW X sc sc2
section
variable {α : Type} {m0 w0 m w v u m2 m3 mi mB wB w2 w3 : MS} {K nm Nk W W2 : Nat → Nat} {T p n N q q2 X X2 Y n2 n3 ni li lo p2 p3 ν μ s s2 x : Nat} {sc sc1 sc2 sc3 t t2 : SCT} {e e2 : List Nat × List Nat × Nat} {gd Rf Zf Rg Zg R2 Z2 : Bool} {l : List Nat} {CL CM : Int32 × Int32 × Int32 → Prop} {BC B2 : MS → Prop}
theorem PCG_rf : PCG m m := ⟨fun _ _ => rfl, fun _ _ => rfl, fun _ _ => rfl⟩
theorem PCG_tr (h : PCG m v) (k : PCG v u) : PCG m u := ⟨fun j hj => (k.1 j hj).trans (h.1 j hj), fun j hj => (k.2.1 j hj).trans (h.2.1 j hj), fun j hj => (k.2.2 j (by rw [h.1 664 (by decide)]; exact hj)).trans (h.2.2 j hj)⟩
theorem PCG_k (h : PCG m v) : Kcc m v := ⟨fun k hk => h.1 k (by simp only [List.mem_cons, List.not_mem_nil, or_false]; omega), fun k hk => h.2.1 k (by omega)⟩
theorem PCF_G (h : PCF m v) : PCG m v := ⟨fun k hk => h.1 k (by simp only [List.mem_cons, List.not_mem_nil, or_false] at hk ⊢; omega), fun k hk => h.2 k (by omega), fun j _ => by rw [h.2 34 (by omega)]⟩
theorem PCG_I {k : Nat} {y : Int32} (h : PCG m v) (hk : k = 306 ∨ k = 449 ∨ k = 665) : PCG m (upI v k y) := ⟨fun j hj => by rw [upI_ne (fun z => by subst z; simp only [List.mem_cons, List.not_mem_nil, or_false] at hj; omega)]; exact h.1 j hj, h.2.1, h.2.2⟩
theorem PCG_A {k : Nat} {g : Nat → Int32} (h : PCG m v) (hk : 16 ≤ k ∧ k ≤ 21) : PCG m (upA v k g) := ⟨h.1, fun j hj => by rw [upA_no (by omega)]; exact h.2.1 j hj, fun j hj => by rw [upA_no (by omega)]; exact h.2.2 j hj⟩
theorem PCG_add {a b c d f : Int32} (h : PCG m v) : PCG m (adN v n a b c d f) := PCG_tr h ⟨fun k hk => adN_i (fun z => by subst z; exact hk (by decide)), fun k hk => adN_r (by omega), fun j _ => by rw [adN_r (by omega)]⟩
theorem PCG_666 {y z : Int32} (h : PCG (upI m 666 y) v) (hz : z = m.1 666) : PCG m (upI v 666 z) := by
  refine ⟨fun k hk => ?_, h.2.1, fun j hj => h.2.2 j (by rw [upI_ne (by decide)]; exact hj)⟩
  by_cases e : k = 666
  · subst e; rw [upI_at]; exact hz
  · rw [upI_ne e, h.1 k hk, upI_ne e]
theorem mrg_l {j : Nat} (h : j < q) : mrg q W W2 j = W j := if_pos h
theorem mrg_r {j : Nat} (h : q ≤ j) : mrg q W W2 j = W2 j := if_neg (by omega)
theorem STW_tr2 (h1 : p ≤ q) (h2 : q ≤ p2) (h : STW Nk K p q sc sc2 X W Rf Zf CL w v) (k : STW Nk K q p2 sc2 sc3 Y W2 Rg Zg CM v u) : STW Nk K p p2 sc sc3 (max X Y) (mrg q W W2) (Rf || Rg) (Zf || Zg) (fun x => CL x ∨ CM x) w u := STW_tr h1 h2 (STW_w (fun _ _ a => mrg_l a) h) (STW_w (fun _ a _ => mrg_r a) k)
theorem SNW_cut {b : Nat} (h : SNW X sc sc2) : SNW X sc (cutS b sc2) := by
  cases sc with
  | nil => cases sc2 <;> trivial
  | cons e t =>
    cases sc2 with
    | nil => trivial
    | cons e2 t2 =>
      refine ⟨fun x hx => h.1 x (List.mem_of_mem_take hx), ?_⟩
      have h2 := h.2
      have : (e2.1.take b).length ≤ e2.1.length := List.length_take_le' _ _
      show (e2.1.take b).length ≤ _
      omega
theorem SNW_nm (h : nms sc2 = nms sc) : SNW X sc sc2 := by
  cases sc with
  | nil => trivial
  | cons e t =>
    cases sc2 with
    | nil => trivial
    | cons e2 t2 =>
      have : e2.1 = e.1 := by
        have h : e2.1 :: nms t2 = e.1 :: nms t := h
        exact (List.cons.inj h).1
      exact ⟨fun x hx => Or.inl (this ▸ hx), by rw [this]; exact Nat.le_max_left _ _⟩
theorem STQ_tr (h : STQ m0 w0 K T Nk gd mB wB p n sc s m w q n2 sc2 X W Rf Zf CL) (k : STQ m0 w0 K T Nk gd m w q n2 sc2 s2 m2 w2 p2 n3 sc3 Y W2 Rg Zg CM) : STQ m0 w0 K T Nk gd mB wB p n sc (s + s2) m2 w2 p2 n3 sc3 (max X Y) (mrg q W W2) (Rf || Rg) (Zf || Zg) (fun x => CL x ∨ CM x) := by
  obtain ⟨a1, a2, a3, a4, a5, a6, a7⟩ := h
  obtain ⟨b1, b2, b3, b4, b5, b6, b7⟩ := k
  refine ⟨b1, ⟨by omega, b2.2.1, by omega, by omega⟩, KPO_tr a3 b3 a2.2.2.1, PCG_tr a4 b4, STW_tr2 a2.1 b2.1 a5 b5, fun g r => ?_, SNW_tr a7 a5.2.1 b7⟩
  have r1 : Rf = false := by cases Rf <;> simp_all
  have r2 : Rg = false := by cases Rg <;> simp_all
  rw [b6 g r2, a6 g r1]
theorem STQ_0 (h : RLP m0 w0 T p m w) (hn : m.1 306 = I (n : Nat)) (hr : RNs w sc) (nd : ND w) : STQ m0 w0 K T Nk gd m w p n sc 0 m w p n sc 0 W false false (fun _ => False) := ⟨h, ⟨Nat.le_refl _, hn, Nat.le_refl _, by omega⟩, KPO_rf, PCG_rf, STW_0 hr nd, fun _ _ => rfl, SNW_rf⟩
theorem STQ_cl (hc : ∀ x, CL x ↔ CM x) (h : STQ m0 w0 K T Nk gd mB wB p n sc s m w q n2 sc2 X W Rf Zf CL) : STQ m0 w0 K T Nk gd mB wB p n sc s m w q n2 sc2 X W Rf Zf CM := ⟨h.1, h.2.1, h.2.2.1, h.2.2.2.1, STW_cl hc h.2.2.2.2.1, h.2.2.2.2.2⟩
theorem STQ_nd (h : STQ m0 w0 K T Nk gd mB wB p n sc s m w q n2 sc2 X W Rf Zf CL) : ND w := STW_nd h.2.2.2.2.1
theorem STQ_rn (h : STQ m0 w0 K T Nk gd mB wB p n sc s m w q n2 sc2 X W Rf Zf CL) : RNs w sc2 := h.2.2.2.2.1.1
theorem RLP_s (h : RLP m0 w0 T p m w) (k : SMS w v) (hv : v.1 69 = w.1 69) : RLP m0 w0 T p m v := by
  obtain ⟨h1, h2, h3, h4, h5, h6, h7⟩ := h
  refine ⟨h1, Kt_tr h2 ⟨fun j hj => k.1 j (by unfold TIN at hj; unfold SMI; simp only [List.mem_cons, List.not_mem_nil, or_false] at hj ⊢; omega), fun j hj => k.2.1 j (by unfold TRW at hj; unfold SMX; simp only [List.mem_cons, List.not_mem_nil, or_false] at hj; omega)⟩, h3, by rw [hv]; exact h4, h5, by rw [k.1 70 (by decide)]; exact h6, by rw [k.1 67 (by decide)]; exact h7⟩
theorem STQ_s (h : STQ m0 w0 K T Nk gd mB wB p n sc s m w q n2 sc2 X W Rf Zf CL) (k : SMS w v) (hv : v.1 69 = w.1 69) : STQ m0 w0 K T Nk gd mB wB p n sc s m v q n2 sc2 X W Rf Zf CL := ⟨RLP_s h.1 k hv, h.2.1, h.2.2.1, h.2.2.2.1, STW_s h.2.2.2.2.1 k, h.2.2.2.2.2⟩
theorem RLP_ad (h : RLP m0 w0 T p m w) (hl : p < T) : RLP m0 w0 T (p + 1) (advc m p) (adv w p) := by
  obtain ⟨h1, h2, h3, h4, h5, h6, h7⟩ := h
  exact ⟨⟨fun k hk => by unfold advc; rw [upI_ne (by omega)]; exact h1.1 k hk, h1.2⟩, ⟨fun k hk => by unfold adv; rw [upI_ne (fun z => by rw [z] at hk; revert hk; decide)]; exact h2.1 k hk, h2.2⟩, upI_at, upI_at, hl, by unfold advc adv; rw [upI_ne (by decide), upI_ne (by decide)]; exact h6, by unfold adv; rw [upI_ne (by decide)]; exact h7⟩
theorem SMS_ad : SMS w (adv w p) := SMS_I SMS_rf (by decide) (by decide)
theorem STQ_ad (h : STQ m0 w0 K T Nk gd mB wB p n sc s m w q n2 sc2 X W Rf Zf CL) (hl : q < T) (hk : K q ≠ 3) : STQ m0 w0 K T Nk gd mB wB p n sc (s + 2) (advc m q) (adv w q) (q + 1) n2 sc2 X W Rf Zf CL := by
  obtain ⟨a1, a2, a3, a4, a5, a6, a7⟩ := h
  refine ⟨RLP_ad a1 hl, ⟨by omega, by unfold advc; rw [upI_ne (by decide)]; exact a2.2.1, a2.2.2.1, by omega⟩, a3, PCG_I a4 (Or.inr (Or.inr rfl)), STW_gap (STW_s a5 SMS_ad) ⟨Nat.le_refl _, by omega⟩ (fun j h1 h2 => absurd h2 (by omega)) (fun j h1 h2 => by rw [show j = q by omega]; exact hk), a6, a7⟩
theorem RLP_add {a b c d f : Int32} (h : RLP m0 w0 T p m w) : RLP m0 w0 T p (adN m n a b c d f) w := by
  obtain ⟨h1, h2, h3, h4, h5, h6, h7⟩ := h
  exact ⟨Kc_tr h1 ⟨fun k hk => adN_i (by omega), fun k hk => adN_r (by omega)⟩, h2, by rw [adN_i (by decide)]; exact h3, h4, h5, by rw [adN_i (by decide)]; exact h6, h7⟩
theorem STQ_add {a b c d f : Int32} (h : STQ m0 w0 K T Nk gd mB wB p n sc (s + 1) m w q n2 sc2 X W Rf Zf CL) : STQ m0 w0 K T Nk gd mB wB p n sc s (adN m n2 a b c d f) w q (n2 + 1) sc2 X W Rf Zf CL := by
  obtain ⟨a1, a2, a3, a4, a5, a6, a7⟩ := h
  exact ⟨RLP_add a1, ⟨a2.1, adN_n, by omega, by omega⟩, KPO_tr a3 adN_o a2.2.2.1, PCG_add a4, a5, a6, a7⟩
theorem STQ_s2 (h : STQ m0 w0 K T Nk gd mB wB p n sc s m w q n2 sc2 X W Rf Zf CL) (hs : s2 ≤ s) : STQ m0 w0 K T Nk gd mB wB p n sc s2 m w q n2 sc2 X W Rf Zf CL := ⟨h.1, ⟨h.2.1.1, h.2.1.2.1, h.2.1.2.2.1, by have := h.2.1.2.2.2; omega⟩, h.2.2⟩
theorem STQ_rule (h : STQ m0 w0 K T Nk gd mB wB p n sc s m w q n2 sc2 X W Rf Zf CL) (h72 : u.1 72 ≠ 0) (hi : ∀ k, k ≠ 71 → k ≠ 72 → u.1 k = w.1 k) (hr : u.2.2.1 = w.2.2.1) : STQ m0 w0 K T Nk gd mB wB p n sc s m u q n2 sc2 X W true Zf CL := by
  obtain ⟨a1, a2, a3, a4, a5, a6, a7⟩ := h
  obtain ⟨h1, h2, h3, h4, h5, h6, h7⟩ := a1
  refine ⟨⟨h1, Kt_tr h2 ⟨fun k hk => hi k (by rintro rfl; revert hk; decide) (by rintro rfl; revert hk; decide), fun k hk => by rw [hr]⟩, h3, by rw [hi 69 (by decide) (by decide)]; exact h4, h5, by rw [hi 70 (by decide) (by decide)]; exact h6, by rw [hi 67 (by decide) (by decide)]; exact h7⟩, a2, a3, a4, STW_rule a5 h72 hi hr, fun _ z => Bool.noConfusion z, a7⟩
theorem EXN_w (h : ∀ j, p ≤ j → j < p2 → W2 j = W j) (q : EXN N K nm gd m2 lo n2 ν p p2 sc sc2 X W Rf Zf BC) : EXN N K nm gd m2 lo n2 ν p p2 sc sc2 X W2 Rf Zf BC := fun d m3 cm last a b => by
  have := q d m3 cm last a b
  unfold CPO at this ⊢
  rw [wup_w h]
  exact this
theorem EXN_bc (hb : ∀ m, B2 m ↔ BC m) (q : EXN N K nm gd m2 lo n2 ν p p2 sc sc2 X W Rf Zf BC) : EXN N K nm gd m2 lo n2 ν p p2 sc sc2 X W Rf Zf B2 := fun d m3 cm last a b => pk_mo (q d m3 cm last a b) (fun v r h => CPO_bc (hb m3) h)
theorem EXN_up {n3 l3 : Nat} (h : KPX lo n2 ν m2 m3) (hn : n2 ≤ n3) (hl : l3 ≤ lo) (q : EXN N K nm gd m2 lo n2 ν p p2 sc sc2 X W Rf Zf BC) : EXN N K nm gd m3 l3 n3 ν p p2 sc sc2 X W Rf Zf BC := fun d m4 cm last a b => q d m4 cm last (KPX_tr h a hn hl) b
theorem ERW_w : ∀ {l : List Nat} {p p2 : Nat} {sc sc2 : SCT} {X : Nat} {Rf Zf : Bool} {BC : MS → Prop}, (∀ j, p ≤ j → j < p2 → W2 j = W j) → ERW N K nm gd m2 lo n2 W l p p2 sc sc2 X Rf Zf BC → ERW N K nm gd m2 lo n2 W2 l p p2 sc sc2 X Rf Zf BC
  | [], _, _, _, _, _, _, _, _, _, h => h
  | ν :: l, p, p2, sc, sc2, X, Rf, Zf, BC, hw, ⟨q, q2, sc1, X1, X2, R1, R2, Z1, Z2, B1, B2, h1, g1, ⟨mi, li, ni, h2, h2b⟩, h3, h4, h5, h6, h7⟩ => by
    have := (ERW_len h6).1
    exact ⟨q, q2, sc1, X1, X2, R1, R2, Z1, Z2, B1, B2, h1, g1, ⟨mi, li, ni, EXN_w (fun j a b => hw j (by omega) (by omega)) h2, h2b⟩, h3, h4, h5, ERW_w (fun j a b => hw j (by omega) b) h6, h7⟩
theorem ERW_hd : ∀ {l : List Nat} {p p2 : Nat} {sc sc2 : SCT} {X : Nat} {Rf Zf : Bool} {BC : MS → Prop}, ERW N K nm gd m2 lo n2 W l p p2 sc sc2 X Rf Zf BC → l ≠ [] → l.headD 0 ≤ l.getLastD 0 ∧ 1 ≤ l.headD 0 ∧ l.getLastD 0 ≤ n2
  | [], _, _, _, _, _, _, _, _, _, h => absurd rfl h
  | [ν], _, _, _, _, _, _, _, _, ⟨_, _, _, _, _, _, _, _, _, _, _, _, _, _, h3, _⟩, _ => ⟨Nat.le_refl _, h3.1, h3.2⟩
  | ν :: μ :: l, p, p2, sc, sc2, X, Rf, Zf, BC, ⟨q, q2, sc1, X1, X2, R1, R2, Z1, Z2, B1, B2, h1, g1, ⟨mi, li, ni, h2, hx, a, b, c⟩, h3, h4, h5, h6, h7⟩, _ => by
    obtain ⟨r1, r2, r3⟩ := ERW_hd h6 (fun z => by cases z)
    have r1 : μ ≤ (μ :: l).getLastD 0 := r1
    have c : ni < μ := c (fun z => by cases z)
    refine ⟨?_, h3.1, r3⟩
    show ν ≤ (μ :: l).getLastD 0
    omega
theorem ERW_up {y : Nat} (hn : n2 ≤ n3) (hk : Kcc m2 m3) : ∀ {l : List Nat} {p p2 : Nat} {sc sc2 : SCT} {X : Nat} {Rf Zf : Bool} {BC : MS → Prop}, (∀ j, j ≤ n2 → nod m3 j = nod m2 j ∧ (j ≠ l.getLastD 0 → m3.2.2.1 21 j = m2.2.2.1 21 j)) → m3.2.2.1 21 (l.getLastD 0) = I (y : Nat) → ERW N K nm gd m2 lo n2 W l p p2 sc sc2 X Rf Zf BC → ∀ {q : Nat} {sc3 : SCT} {Y : Nat} {Rg Zg : Bool} {BD : MS → Prop} {l2 : List Nat}, l ≠ [] → (l2.headD 0 = y) → (l2 ≠ [] → n2 < y) → STB BD → ERW N K nm gd m3 lo n3 W l2 p2 q sc2 sc3 Y Rg Zg BD → ERW N K nm gd m3 lo n3 W (l ++ l2) p q sc sc3 (max X Y) (Rf || Rg) (Zf || Zg) (fun m => BC m ∨ BD m)
  | [], _, _, _, _, _, _, _, _, _, _, _, _, _, _, _, _, _, _, h, _, _, _, _ => absurd rfl h
  | [ν], p, p2, sc, sc2, X, Rf, Zf, BC, hs, hy, ⟨q, q2, sc1, X1, X2, R1, R2, Z1, Z2, B1, B2, h1, g1, ⟨mi, li, ni, h2, hx, a, b, c⟩, h3, h4, h5, h6, h7, h8, h9, h10, h11⟩, qq, sc3, Y, Rg, Zg, BD, l2, _, hl2, hy2, hst, hr => by
    obtain ⟨z1, z2, z3, z4, z5, z6⟩ := h6
    subst z1
    subst z2
    subst z3
    subst z4
    subst z5
    obtain ⟨r1, r2, r3⟩ := ERW_len hr
    refine ⟨q, q2, sc2, X1, Y, R1, Rg, Z1, Zg, B1, BD, ⟨h1.1, h1.2.1, r1⟩, g1, ⟨mi, li, ni, h2, ⟨fun j h0 hj => ⟨(hs j (by omega)).1.trans (hx.1 j h0 hj).1, fun z => ((hs j (by omega)).2 z).trans ((hx.1 j h0 hj).2 z)⟩, Kc_tr hx.2 hk⟩, ⟨a.1, by omega⟩, b, fun z => ?_⟩, ⟨h3.1, by omega⟩, ?_, h5, hr, ?_, ?_, ?_, fun m => ?_, hst⟩
    · show ni < l2.headD 0
      rw [hl2]; have := hy2 z; omega
    · show m3.2.2.1 21 ν = I ((l2.headD 0 : Nat) : Int)
      rw [hl2]; exact hy
    · rw [h7]; omega
    · rw [h8, Bool.or_false]
    · rw [h9, Bool.or_false]
    · show (BC m ∨ BD m) ↔ _
      rw [h10]
      constructor
      · rintro ((z | z) | z)
        · exact Or.inl z
        · exact absurd z (z6 m)
        · exact Or.inr z
      · rintro (z | z)
        · exact Or.inl (Or.inl z)
        · exact Or.inr z
  | ν :: μ :: l, p, p2, sc, sc2, X, Rf, Zf, BC, hs, hy, ⟨q, q2, sc1, X1, X2, R1, R2, Z1, Z2, B1, B2, h1, g1, ⟨mi, li, ni, h2, hx, a, b, c⟩, h3, h4, h5, h6, h7, h8, h9, h10, h11⟩, qq, sc3, Y, Rg, Zg, BD, l2, _, hl2, hy2, hst, hr => by
    obtain ⟨r1, r2, r3⟩ := ERW_len hr
    obtain ⟨d1, d2, d3⟩ := ERW_hd h6 (fun z => by cases z)
    have d1 : μ ≤ (μ :: l).getLastD 0 := d1
    have c2 : ni < μ := c (fun z => by cases z)
    have hs : ∀ j, j ≤ n2 → nod m3 j = nod m2 j ∧ (j ≠ (μ :: l).getLastD 0 → m3.2.2.1 21 j = m2.2.2.1 21 j) := hs
    have hy : m3.2.2.1 21 ((μ :: l).getLastD 0) = I (y : Nat) := hy
    have ih := ERW_up hn hk hs hy h6 (fun z => by cases z) hl2 hy2 hst hr
    refine ⟨q, q2, sc1, X1, max X2 Y, R1, R2 || Rg, Z1, Z2 || Zg, B1, (fun m => B2 m ∨ BD m), ⟨h1.1, h1.2.1, by omega⟩, g1, ⟨mi, li, ni, h2, ⟨fun j h0 hj => ⟨(hs j (by omega)).1.trans (hx.1 j h0 hj).1, fun z => ((hs j (by omega)).2 (by omega)).trans ((hx.1 j h0 hj).2 z)⟩, Kc_tr hx.2 hk⟩, ⟨a.1, by omega⟩, b, fun _ => c2⟩, ⟨h3.1, by omega⟩, ?_, h5, ih, ?_, ?_, ?_, fun m => ?_, STB_or h11 hst⟩
    · show m3.2.2.1 21 ν = I (μ : Nat)
      rw [(hs ν h3.2).2 (by omega)]
      exact h4
    · rw [h7]; omega
    · rw [h8, Bool.or_assoc]
    · rw [h9, Bool.or_assoc]
    · show (BC m ∨ BD m) ↔ B1 m ∨ (B2 m ∨ BD m)
      rw [h10, or_assoc]
theorem ERW_1 (h : EXN N K nm gd m2 lo n2 ν q q2 sc sc2 X W Rf Zf BC) (hq : q ≤ q2) (hν : 1 ≤ ν ∧ ν ≤ n2) (hlo : lo < ν) (h21 : m2.2.2.1 21 ν = 0) (ht : tot sc2 ≤ tot sc + (q2 - q)) (hl : sc2.length = sc.length) (hX : X ≤ 1400) : ERW N K nm gd m2 lo n2 W [ν] q q2 sc sc2 X Rf Zf BC := ⟨q, q2, sc2, X, 0, Rf, false, Zf, false, BC, (fun _ => False), ⟨Nat.le_refl _, hq, Nat.le_refl _⟩, fun j a b => absurd b (by omega), ⟨m2, lo, n2, h, ⟨fun _ _ _ => ⟨rfl, fun _ => rfl⟩, Kc_rf⟩, ⟨Nat.le_refl _, Nat.le_refl _⟩, ⟨hlo, hν.2⟩, fun z => absurd rfl z⟩, hν, h21, ⟨ht, hl, hX⟩, ⟨rfl, rfl, rfl, rfl, rfl, fun _ z => z⟩, by omega, (Bool.or_false _).symm, (Bool.or_false _).symm, fun m => (iff_of_eq (or_false _)).symm, fun _ _ _ => Iff.rfl⟩
theorem ERW_snoc (hk : Kcc m2 m3) (hl : l ≠ []) (hs : ∀ j, j ≤ n2 → nod m3 j = nod m2 j ∧ (j ≠ l.getLastD 0 → m3.2.2.1 21 j = m2.2.2.1 21 j)) (hy : m3.2.2.1 21 (l.getLastD 0) = I (μ : Nat)) (h : ERW N K nm gd m2 lo n2 W l p p2 sc sc2 X Rf Zf BC) (hg : ∀ j, p2 ≤ j → j < q → K j ≠ 3) (hq : p2 ≤ q ∧ q ≤ q2) (hp : EXN N K nm gd mi li ni μ q q2 sc2 sc3 Y W Rg Zg B2) (hx : KPX li ni μ mi m3) (hμ : n2 < μ ∧ μ ≤ ni ∧ ni ≤ n3) (hli : lo ≤ li ∧ li < μ) (h21 : m3.2.2.1 21 μ = 0) (ht : tot sc3 ≤ tot sc2 + (q2 - q)) (hln : sc3.length = sc2.length) (hY : Y ≤ 1400) (hst : STB B2) : ERW N K nm gd m3 lo n3 W (l ++ [μ]) p q2 sc sc3 (max X Y) (Rf || Rg) (Zf || Zg) (fun m => BC m ∨ B2 m) := by
  refine ERW_up (y := μ) (by omega) hk hs hy h hl rfl (fun _ => hμ.1) hst ?_
  exact ⟨q, q2, sc3, Y, 0, Rg, false, Zg, false, B2, (fun _ => False), ⟨hq.1, hq.2, Nat.le_refl _⟩, hg, ⟨mi, li, ni, hp, hx, ⟨hli.1, hμ.2.2⟩, ⟨hli.2, hμ.2.1⟩, fun z => absurd rfl z⟩, ⟨by omega, by omega⟩, h21, ⟨ht, hln, hY⟩, ⟨rfl, rfl, rfl, rfl, rfl, fun _ z => z⟩, by omega, (Bool.or_false _).symm, (Bool.or_false _).symm, fun m => (iff_of_eq (or_false _)).symm, fun _ _ _ => Iff.rfl⟩
end
end
section
set_option maxRecDepth 100000
def WCN (Nk K nm W : Nat → Nat) (p p2 : Nat) (sc : SCT) : Prop := ∀ j, p ≤ j → j < p2 → K j = 3 → (nm (Nk j) ≠ 0 → fnb (Nk j) sc = true → W j = lvx (Nk j) sc) ∧ (nm (Nk j) = 0 ∨ fnb (Nk j) sc = false → sc.length ≤ W j + 1)
def PNM (Nk K nm : Nat → Nat) (p p2 : Nat) : SCT → SCT → Nat → Prop
  | e :: t, e2 :: t2, X => ((X = 0 ∧ e2.1 = e.1) ∨ X = e2.1.length) ∧ (∀ x, x ∈ e2.1 → x ∈ e.1 ∨ (fnb x (e :: t) = false ∧ ∃ j, (p ≤ j ∧ j < p2) ∧ K j = 3 ∧ Nk j = x ∧ nm x ≠ 0)) ∧ ∀ j, p ≤ j → j < p2 → K j = 3 → nm (Nk j) ≠ 0 → fnb (Nk j) (e2 :: t2) = true
  | _, _, _ => False
def PZW (Nk K nm : Nat → Nat) (T p p2 : Nat) (sc : SCT) (w w2 : MS) (q : SCT → Nat → (Nat → Nat) → Prop) : Prop := ∃ (sc2 : SCT) (X : Nat) (W : Nat → Nat), WP w2 K T p2 ∧ RNs w2 sc2 ∧ SCX sc sc2 X ∧ HDs Nk K W p p2 sc sc2 ∧ (tot sc2 ≤ tot sc + (p2 - p) ∧ X ≤ 1400) ∧ w2.1 66 = lgS sc X (w.1 66) ∧ WFP w w2 ∧ WCN Nk K nm W p p2 sc ∧ PNM Nk K nm p p2 sc sc2 X ∧ q sc2 X W
def PTX (N : Nat) (w0 : MS) (K : Nat → Nat) (T : Nat) (nm Nk : Nat → Nat) (m2 : MS) (lo n2 ν p p2 o : Nat) (NC : Nat → Prop) (X : Nat) : Prop := ∃ isP : Bool, (isP = true → X = 0) ∧ (∀ (d : Nat) (m3 : MS), KPX lo n2 ν m2 m3 → PK (fun v r => v = m3 ∧ r = b2c isP) (hrc_Tr_isPattern N d m3 (I (ν : Nat)))) ∧ ∀ (d : Nat) (w : MS) (sc : SCT) (o' : Nat), WP w K T p → Ktc w0 w → w.1 67 = 0 → w.1 70 = I (o' : Nat) → o' ≤ o → RNs w sc → PK (fun w2 _ => (isP = true ∧ PZW Nk K nm T p p2 sc w w2 (fun sc2 X W => PTN N K nm m2 lo n2 ν false p p2 sc sc2 X W)) ∨ (isP = false ∧ (FLW w2 ∨ (w2.1 67 = 0 ∧ ∃ q, WP w2 K T q ∧ NC (K q))))) ((rc_M_rowPattern N d).2 w 0)
def NC0 (k : Nat) : Prop := 0 < rkK k ∨ k = 20
def NC1 (k : Nat) : Prop := NC0 k ∨ k = 30 ∨ k = 36
def EXZ (N : Nat) (m0 w0 : MS) (K : Nat → Nat) (T : Nat) (nm Nk : Nat → Nat) (p n : Nat) (gd : Bool) (sc : SCT) (o : Nat) (NC : Nat → Prop) (m w m2 : MS) (z : Int32 ⊕ Nat) (w2 : MS) (_ : Int32) : Prop := match z with
  | .inr _ => FLW w2
  | .inl ε => ∃ (p2 n2 ν : Nat) (sc2 : SCT) (X : Nat) (W : Nat → Nat) (Rf Zf : Bool) (CL : Int32 × Int32 × Int32 → Prop), ε = I (ν : Nat) ∧ (n < ν ∧ ν ≤ n2) ∧ p < p2 ∧ STQ m0 w0 K T Nk gd m w p n sc 1 m2 w2 p2 n2 sc2 X W Rf Zf CL ∧ m2.2.2.1 21 ν = 0 ∧ EXN N K nm gd m2 n n2 ν p p2 sc sc2 X W Rf Zf (BCo N CL) ∧ PTX N w0 K T nm Nk m2 n n2 ν p p2 o NC X ∧ ∃ k : Nat, m2.2.2.1 16 ν = I (k : Nat) ∧ k < 23 ∧ (k = 1 → K p = 1 ∧ p2 = p + 1 ∧ X = 0) ∧ (k ≠ 1 → K p = 1 → NC (K (p + 1))) ∧ ∃ tok : Nat, tok ≤ 4000 ∧ m2.2.2.1 17 ν = I (tok : Nat)
def EXS (N : Nat) (m0 w0 : MS) (K : Nat → Nat) (T : Nat) (nm Nk : Nat → Nat) (δ : Nat) (NC : Nat → Prop) (fc : MS → Option (MS × (Int32 ⊕ Nat))) (fw : MS → Option (MS × Int32)) : Prop := ∀ (m w : MS) (p n : Nat) (sc : SCT) (gd : Bool) (o : Nat), RLP m0 w0 T p m w → m.1 306 = I (n : Nat) → n ≤ 2 * p → RNs w sc → ND w → w.1 70 = I ((o + δ : Nat) : Int) → o + δ ≤ 25 → decide (w.1 73 = 0) = !gd → PP (EXZ N m0 w0 K T nm Nk p n gd sc o NC m w) (fc m) (fw w)
section
variable {m0 w0 m w v u m2 m3 w2 : MS} {K nm Nk W W2 : Nat → Nat} {T p n N q X Y n2 lo p2 ν μ x o o' : Nat} {sc sc1 sc2 sc3 t t2 : SCT} {e e2 : List Nat × List Nat × Nat} {NC ND : Nat → Prop} {S : SG_M_rowPattern} {k : Nat} {a b c g : Int32}
theorem lvx_cons : lvx x (e :: t) = if e.1.contains x then t.length else lvx x t := rfl
theorem BDs_lvx : ∀ {a b : SCT}, BDs a b → lvx x b = lvx x a
  | [], [], _ => rfl
  | e :: t, e2 :: t2, h => by rw [lvx_cons, lvx_cons, h.1.1, BDs_lvx h.2, (BDs_len h.2).1]
  | [], _ :: _, h => h.elim
  | _ :: _, [], h => h.elim
theorem lvx_up {a b : SCT} (h : SCX a b X) (s : SNW Y a b) (f : fnb x a = true) : lvx x b = lvx x a := by
  cases a with
  | nil => exact h.elim
  | cons e t =>
    cases b with
    | nil => exact h.elim
    | cons e2 t2 =>
      obtain ⟨h1, h2, h3⟩ := h
      rw [lvx_cons, lvx_cons, BDs_lvx h3, (BDs_len h3).1]
      have : e2.1.contains x = e.1.contains x := by
        cases z : e.1.contains x with
        | true => rw [List.contains_iff_mem] at z ⊢; exact h1.subset z
        | false =>
          cases y : e2.1.contains x with
          | false => rfl
          | true =>
            rw [List.contains_iff_mem] at y
            rcases s.1 x y with i | i
            · rw [← List.contains_iff_mem, z] at i; cases i
            · rw [f] at i; cases i
      rw [this]
theorem lvx_nw {a b : SCT} (h : SCX a b X) (f : fnb x a = false) (f2 : fnb x b = true) : a.length ≤ lvx x b + 1 := by
  cases a with
  | nil => exact Nat.zero_le _
  | cons e t =>
    cases b with
    | nil => exact h.elim
    | cons e2 t2 =>
      obtain ⟨h1, h2, h3⟩ := h
      rw [fnb_cons] at f f2
      rw [BDs_fnb h3] at f2
      cases z : e2.1.contains x with
      | true => rw [lvx_cons, z, if_pos rfl, (BDs_len h3).1]; exact Nat.le_refl _
      | false =>
        rw [z, Bool.false_or] at f2
        rw [f2, Bool.or_true] at f
        cases f
theorem PNM_sn (h : PNM Nk K nm p p2 sc sc2 X) : SNW X sc sc2 := by
  cases sc with
  | nil => exact h.elim
  | cons e t =>
    cases sc2 with
    | nil => exact h.elim
    | cons e2 t2 =>
      refine ⟨fun x hx => ?_, ?_⟩
      · rcases h.2.1 x hx with z | z
        · exact Or.inl z
        · exact Or.inr z.1
      · rcases h.1 with z | z
        · rw [z.2]; exact Nat.le_max_left _ _
        · rw [z]; exact Nat.le_max_right _ _
theorem WCN_tr (h : WCN Nk K nm W p q sc) (k : WCN Nk K nm W2 q p2 sc2) (hx : SCX sc sc2 X) (hs : SNW Y sc sc2) : WCN Nk K nm (mrg q W W2) p p2 sc := by
  intro j h1 h2 h3
  by_cases z : j < q
  · rw [mrg_l z]; exact h j h1 z h3
  · rw [mrg_r (by omega)]
    obtain ⟨k1, k2⟩ := k j (by omega) h2 h3
    refine ⟨fun a b => ?_, fun a => ?_⟩
    · rw [k1 a (SCX_fnb hx b), lvx_up hx hs b]
    · rw [← SCX_len hx]
      rcases a with a | a
      · exact k2 (Or.inl a)
      · cases y : fnb (Nk j) sc2 with
        | false => exact k2 (Or.inr y)
        | true =>
          by_cases i : nm (Nk j) = 0
          · exact k2 (Or.inl i)
          · rw [k1 i y, SCX_len hx]; exact lvx_nw hx a y
theorem PNM_tr (h : PNM Nk K nm p q sc sc2 X) (k : PNM Nk K nm q p2 sc2 sc3 Y) (h1 : p ≤ q) (h2 : q ≤ p2) (hx : SCX sc sc2 X) (hy : SCX sc2 sc3 Y) : PNM Nk K nm p p2 sc sc3 (max X Y) := by
  cases sc with
  | nil => exact h.elim
  | cons e t =>
    cases sc2 with
    | nil => exact h.elim
    | cons e2 t2 =>
      cases sc3 with
      | nil => exact k.elim
      | cons e3 t3 =>
        obtain ⟨a1, a2, a3⟩ := h
        obtain ⟨b1, b2, b3⟩ := k
        have l1 := hx.1.length_le
        have l2 := hy.1.length_le
        refine ⟨?_, fun x hx3 => ?_, fun j j1 j2 j3 j4 => ?_⟩
        · rcases b1 with ⟨b, c⟩ | b
          · rcases a1 with ⟨a, d⟩ | a
            · exact Or.inl ⟨by omega, c.trans d⟩
            · rw [c]; exact Or.inr (by omega)
          · refine Or.inr ?_
            rcases a1 with ⟨a, d⟩ | a
            · omega
            · omega
        · rcases b2 x hx3 with z | ⟨z, j, j1, j2⟩
          · rcases a2 x z with y | ⟨y, j, j1, j2⟩
            · exact Or.inl y
            · exact Or.inr ⟨y, j, ⟨j1.1, by omega⟩, j2⟩
          · refine Or.inr ⟨?_, j, ⟨by omega, j1.2⟩, j2⟩
            cases y : fnb x (e :: t) with
            | false => rfl
            | true => rw [SCX_fnb hx y] at z; cases z
        · by_cases z : j < q
          · exact SCX_fnb hy (a3 j j1 z j3 j4)
          · exact b3 j (by omega) j2 j3 j4
theorem PNM_0 (h : sc ≠ []) (g : ∀ j, p ≤ j → j < p2 → K j = 3 → nm (Nk j) ≠ 0 → fnb (Nk j) sc = true) : PNM Nk K nm p p2 sc sc 0 := by
  cases sc with
  | nil => exact absurd rfl h
  | cons e t => exact ⟨Or.inl ⟨rfl, rfl⟩, fun x hx => Or.inl hx, g⟩
theorem WCN_gap {q2 : Nat} (h : WCN Nk K nm W q q2 sc) (g1 : ∀ j, p ≤ j → j < q → K j ≠ 3) (g2 : ∀ j, q2 ≤ j → j < p2 → K j ≠ 3) : WCN Nk K nm W p p2 sc := fun j h1 h2 h3 => by
  by_cases z : j < q
  · exact absurd h3 (g1 j h1 z)
  · by_cases y : j < q2
    · exact h j (by omega) y h3
    · exact absurd h3 (g2 j (by omega) h2)
theorem PNM_gap {q2 : Nat} (h : PNM Nk K nm q q2 sc sc2 X) (hq : p ≤ q ∧ q2 ≤ p2) (g1 : ∀ j, p ≤ j → j < q → K j ≠ 3) (g2 : ∀ j, q2 ≤ j → j < p2 → K j ≠ 3) : PNM Nk K nm p p2 sc sc2 X := by
  cases sc with
  | nil => exact h.elim
  | cons e t =>
    cases sc2 with
    | nil => exact h.elim
    | cons e2 t2 =>
      obtain ⟨a1, a2, a3⟩ := h
      refine ⟨a1, fun x hx => ?_, fun j h1 h2 h3 h4 => ?_⟩
      · rcases a2 x hx with z | ⟨z, j, j1, j2⟩
        · exact Or.inl z
        · exact Or.inr ⟨z, j, ⟨by omega, by omega⟩, j2⟩
      · by_cases z : j < q
        · exact absurd h3 (g1 j h1 z)
        · by_cases y : j < q2
          · exact a3 j (by omega) y h3 h4
          · exact absurd h3 (g2 j (by omega) h2)
theorem pt_none (h : WP w K T p) (h67 : w.1 67 = 0) (hb : bPK (K p) = false) {v1 : Int32} : ∀ d, PK (fun w2 (_ : Int32) => FLW w2) ((rc_M_rowPattern N d).2 w v1)
  | 0 => pk_none
  | d + 1 => by
    show PK _ (fb_M_patternAt_0 N (rc_M_rowPattern N d) () w v1)
    rw [pAt_e h h67, hb, pAt_101, show decide (b2c false = 0) = true from rfl, br_tq]
    exact pk_bnd (fun v r z => pk_some (wrong_s (u0 := w) (by decide) v r z))
theorem KPX_16 (hn : nod m2 ν = (I (k : Nat), a, b, c, g)) (hlo : lo < ν) (hν : ν ≤ n2) (kx : KPX lo n2 ν m2 m3) : m3.2.2.1 16 ν = I (k : Nat) ∧ m3.2.2.1 18 ν = b ∧ m3.2.2.1 20 ν = g := by
  have := KPX_nod kx hlo hν
  rw [hn] at this
  unfold nod at this
  have h1 := congrArg (fun z => z.1) this
  have h2 := congrArg (fun z => z.2.2.1) this
  have h3 := congrArg (fun z => z.2.2.2.2) this
  exact ⟨h1, h2, h3⟩
theorem isP_k (hν : ν ≤ 8015) (hk : k < 23) (h1 : ¬ (1 ≤ k ∧ k ≤ 7)) (h2 : k ≠ 17) : ∀ (d : Nat) (m3 : MS), m3.2.2.1 16 ν = I (k : Nat) → PK (fun v r => v = m3 ∧ r = b2c false) (hrc_Tr_isPattern N d m3 (I (ν : Nat)))
  | 0, _, _ => pk_none
  | d + 1, m3, e0 => by
    show PK _ (hb_Tr_isPattern_0 N (hrc_Tr_isPattern N d) _ m3 (I (ν : Nat)))
    unfold hb_Tr_isPattern_0
    refine pk_ck (fun z => ?_)
    have fin : PK (fun v r => v = m3 ∧ r = b2c false) (ck (isb 0) (some (m3, (0 : Int32)))) := pk_ck (fun _ => pk_some ⟨rfl, rfl⟩)
    rw [tnI (n := ν) rfl (by omega), e0]
    rw [I_dn (a := k) (b := 1) (s := 1) (by omega) (by decide) rfl, decide_eq_false (p := k = 1) (by omega), br_fq]
    rw [I_dn (a := k) (b := 2) (s := 2) (by omega) (by decide) rfl, decide_eq_false (p := k = 2) (by omega), br_fq]
    rw [I_dn (a := k) (b := 3) (s := 3) (by omega) (by decide) rfl, decide_eq_false (p := k = 3) (by omega), br_fq]
    rw [I_dn (a := k) (b := 4) (s := 4) (by omega) (by decide) rfl, decide_eq_false (p := k = 4) (by omega), br_fq]
    rw [I_dn (a := k) (b := 5) (s := 5) (by omega) (by decide) rfl, decide_eq_false (p := k = 5) (by omega), br_fq]
    rw [I_dn (a := k) (b := 6) (s := 6) (by omega) (by decide) rfl, decide_eq_false (p := k = 6) (by omega), br_fq]
    rw [I_dn (a := k) (b := 7) (s := 7) (by omega) (by decide) rfl, decide_eq_false (p := k = 7) (by omega), br_fq]
    refine pk_br (fun _ => fin) (fun _ => pk_br (fun _ => fin) (fun _ => pk_br (fun _ => fin) (fun _ => pk_br (fun _ => fin) (fun _ => pk_br (fun _ => fin) (fun _ => pk_br (fun _ => fin) (fun _ => pk_br (fun _ => fin) (fun _ => pk_br (fun _ => fin) (fun _ => pk_br (fun _ => fin) (fun _ => ?_)))))))))
    rw [I_dn (a := k) (b := 17) (s := 17) (by omega) (by decide) rfl, decide_eq_false (p := k = 17) h2, br_fq]
    exact fin
theorem isP_y (hν : ν ≤ 8015) (hk : 1 ≤ k ∧ k ≤ 4) : ∀ (d : Nat) (m3 : MS), m3.2.2.1 16 ν = I (k : Nat) → PK (fun v r => v = m3 ∧ r = b2c true) (hrc_Tr_isPattern N d m3 (I (ν : Nat)))
  | 0, _, _ => pk_none
  | d + 1, m3, e0 => by
    show PK _ (hb_Tr_isPattern_0 N (hrc_Tr_isPattern N d) _ m3 (I (ν : Nat)))
    unfold hb_Tr_isPattern_0
    refine pk_ck (fun z => ?_)
    have fin : PK (fun v r => v = m3 ∧ r = b2c true) (ck (isb 1) (some (m3, (1 : Int32)))) := pk_ck (fun _ => pk_some ⟨rfl, rfl⟩)
    rw [tnI (n := ν) rfl (by omega), e0]
    refine pk_br (fun _ => fin) (fun y1 => pk_br (fun _ => fin) (fun y2 => pk_br (fun _ => fin) (fun y3 => ?_)))
    rw [I_dn (a := k) (b := 1) (s := 1) (by omega) (by decide) rfl] at y1
    rw [I_dn (a := k) (b := 2) (s := 2) (by omega) (by decide) rfl] at y2
    rw [I_dn (a := k) (b := 3) (s := 3) (by omega) (by decide) rfl] at y3
    have y1 := of_decide_eq_false y1
    have y2 := of_decide_eq_false y2
    have y3 := of_decide_eq_false y3
    rw [I_dn (a := k) (b := 4) (s := 4) (by omega) (by decide) rfl, decide_eq_true (p := k = 4) (by omega), br_tq]
    exact fin
theorem isP_5 {isP : Bool} (hν : ν ≤ 8015) : ∀ (d : Nat) (m3 : MS), m3.2.2.1 16 ν = I ((5 : Nat) : Int) → m3.2.2.1 18 ν = I (μ : Nat) → (∀ d, PK (fun v r => v = m3 ∧ r = b2c isP) (hrc_Tr_isPattern N d m3 (I (μ : Nat)))) → PK (fun v r => v = m3 ∧ r = b2c isP) (hrc_Tr_isPattern N d m3 (I (ν : Nat)))
  | 0, _, _, _, _ => pk_none
  | d + 1, m3, e0, e1, hc => by
    show PK _ (hb_Tr_isPattern_0 N (hrc_Tr_isPattern N d) _ m3 (I (ν : Nat)))
    unfold hb_Tr_isPattern_0
    refine pk_ck (fun z => ?_)
    rw [tnI (n := ν) rfl (by omega), e0, e1, show decide (I ((5 : Nat) : Int) = 1) = false from rfl, br_fq, show decide (I ((5 : Nat) : Int) = 2) = false from rfl, br_fq, show decide (I ((5 : Nat) : Int) = 3) = false from rfl, br_fq, show decide (I ((5 : Nat) : Int) = 4) = false from rfl, br_fq, show decide (I ((5 : Nat) : Int) = 5) = true from rfl, br_tq]
    exact pk_ck (fun _ => pk_bnd (pk_mo (hc d) (fun v r y => pk_ck (fun _ => pk_some y))))
theorem isP_17 (hν : ν ≤ 8015) (hμ : μ ≤ 8015) (hk : k < 23) : ∀ (d : Nat) (m3 : MS), m3.2.2.1 16 ν = I ((17 : Nat) : Int) → m3.2.2.1 18 ν = I (μ : Nat) → m3.2.2.1 16 μ = I (k : Nat) → PK (fun v r => v = m3 ∧ r = b2c (decide (k = 1))) (hrc_Tr_isPattern N d m3 (I (ν : Nat)))
  | 0, _, _, _, _ => pk_none
  | d + 1, m3, e0, e1, e2 => by
    show PK _ (hb_Tr_isPattern_0 N (hrc_Tr_isPattern N d) _ m3 (I (ν : Nat)))
    unfold hb_Tr_isPattern_0 hb_Tr_isPattern_110
    refine pk_ck (fun z => ?_)
    rw [tnI (n := ν) rfl (by omega), e0, e1, tnI (n := μ) rfl (by omega), e2, I_dn (a := k) (b := 1) (s := 1) (by omega) (by decide) rfl]
    have q : ∀ (j : Nat), j < 46 → j ≠ 17 → decide (I ((17 : Nat) : Int) = I (j : Nat)) = false := by decide
    rw [show decide (I ((17 : Nat) : Int) = 1) = false from rfl, br_fq, show decide (I ((17 : Nat) : Int) = 2) = false from rfl, br_fq, show decide (I ((17 : Nat) : Int) = 3) = false from rfl, br_fq, show decide (I ((17 : Nat) : Int) = 4) = false from rfl, br_fq, show decide (I ((17 : Nat) : Int) = 5) = false from rfl, br_fq, show decide (I ((17 : Nat) : Int) = 6) = false from rfl, br_fq, show decide (I ((17 : Nat) : Int) = 7) = false from rfl, br_fq, show decide (I ((17 : Nat) : Int) = 8) = false from rfl, br_fq, show decide (I ((17 : Nat) : Int) = 9) = false from rfl, br_fq, show decide (I ((17 : Nat) : Int) = 10) = false from rfl, br_fq, show decide (I ((17 : Nat) : Int) = 11) = false from rfl, br_fq, show decide (I ((17 : Nat) : Int) = 12) = false from rfl, br_fq, show decide (I ((17 : Nat) : Int) = 13) = false from rfl, br_fq, show decide (I ((17 : Nat) : Int) = 14) = false from rfl, br_fq, show decide (I ((17 : Nat) : Int) = 15) = false from rfl, br_fq, show decide (I ((17 : Nat) : Int) = 16) = false from rfl, br_fq, show decide (I ((17 : Nat) : Int) = 17) = true from rfl, br_tq]
    refine pk_ck (fun _ => pk_ck (fun _ => ?_))
    cases y : decide (k = 1) with
    | true => rw [br_tq]; exact pk_ck (fun _ => pk_some ⟨rfl, rfl⟩)
    | false => rw [br_fq]; exact pk_ck (fun _ => pk_some ⟨rfl, rfl⟩)
theorem PTX_no (hn : nod m2 ν = (I (k : Nat), a, b, c, g)) (hlo : lo < ν) (hν : ν ≤ n2) (hl : n2 ≤ 8015) (hk : k < 23) (h1 : ¬ (1 ≤ k ∧ k ≤ 7)) (h2 : k ≠ 17) (hb : bPK (K p) = false) : PTX N w0 K T nm Nk m2 lo n2 ν p p2 o NC X := ⟨false, fun z => Bool.noConfusion z, fun d m3 kx => isP_k (by omega) hk h1 h2 d m3 (KPX_16 hn hlo hν kx).1, fun d w sc o' hw _ h67 _ _ _ => pk_mo (pt_none hw h67 hb d) (fun _ _ z => Or.inr ⟨rfl, Or.inl z⟩)⟩
theorem PTX_der {m1 : MS} {l1 n1 : Nat} (h : PTX N w0 K T nm Nk m1 l1 n1 μ p q o ND Y) (hn : nod m2 ν = (I (k : Nat), a, b, c, g)) (hlo : lo < ν) (hν : ν ≤ n2) (hl : n2 ≤ 8015) (hk : k < 23) (h1 : ¬ (1 ≤ k ∧ k ≤ 7)) (h2 : k ≠ 17) (hND : ∀ k, ND k → NC k) (hq : NC (K q)) : PTX N w0 K T nm Nk m2 lo n2 ν p p2 o NC X := by
  obtain ⟨isP, -, -, h⟩ := h
  refine ⟨false, fun z => Bool.noConfusion z, fun d m3 kx => isP_k (by omega) hk h1 h2 d m3 (KPX_16 hn hlo hν kx).1, fun d w sc o' hw kt h67 h70 ho hr => pk_mo (h d w sc o' hw kt h67 h70 ho hr) ?_⟩
  rintro w2 r (⟨-, sc2, X, W, a1, a2, a3, a4, a5, a6, a7, a8⟩ | ⟨-, z | ⟨z0, q', z1, z2⟩⟩)
  · exact Or.inr ⟨rfl, Or.inr ⟨by rw [a7.1 67 (by decide)]; exact h67, q, a1, hq⟩⟩
  · exact Or.inr ⟨rfl, Or.inl z⟩
  · exact Or.inr ⟨rfl, Or.inr ⟨z0, q', z1, hND _ z2⟩⟩
theorem PTX_up {n3 l3 : Nat} (h : PTX N w0 K T nm Nk m2 lo n2 ν p p2 o NC X) (kx : KPX lo n2 ν m2 m3) (hn : n2 ≤ n3) (hl : l3 ≤ lo) (hND : ∀ k, NC k → ND k) : PTX N w0 K T nm Nk m3 l3 n3 ν p p2 o ND X := by
  obtain ⟨isP, h0, h1, h2⟩ := h
  refine ⟨isP, h0, fun d m4 k4 => h1 d m4 (KPX_tr kx k4 hn hl), fun d w sc o' hw kt h67 h70 ho hr => pk_mo (h2 d w sc o' hw kt h67 h70 ho hr) ?_⟩
  rintro w2 r (⟨z, sc2, X, W, a1, a2, a3, a4, a5, a6, a7, a8, a9, a10⟩ | ⟨z, y | ⟨z0, q', z1, z2⟩⟩)
  · exact Or.inl ⟨z, sc2, X, W, a1, a2, a3, a4, a5, a6, a7, a8, a9, PTN_up kx hn hl a10⟩
  · exact Or.inr ⟨z, Or.inl y⟩
  · exact Or.inr ⟨z, Or.inr ⟨z0, q', z1, hND _ z2⟩⟩
theorem I_25 (h : w.1 70 = I (o' : Nat)) (ho : o' < 25) : w.1 70 < 25 := by
  rw [h, show (25 : Int32) = I ((25 : Nat) : Int) from rfl]
  exact (I_lt (by omega) (by omega) (by omega) (by omega)).mpr (by omega)
theorem PTX_leaf (hn : nod m2 ν = (I (K p : Nat), a, b, c, g)) (hlo : lo < ν) (hν : ν ≤ n2) (hl : n2 ≤ 8015) (hk : K p = 1 ∨ K p = 2 ∨ K p = 4) (hT : p < T) (ho : o < 25) : PTX N w0 K T nm Nk m2 lo n2 ν p (p + 1) o NC 0 := by
  refine ⟨true, fun _ => rfl, fun d m3 kx => isP_y (k := K p) (by omega) (by omega) d m3 (KPX_16 hn hlo hν kx).1, fun d w sc o' hw kt h67 h70 ho2 hr => ?_⟩
  cases d with
  | zero => exact pk_none
  | succ d =>
    have hb : bPK (K p) = true := by rcases hk with z | z | z <;> rw [z] <;> rfl
    show PK _ (fb_M_patternAt_0 N (rc_M_rowPattern N d) () w 0)
    rw [pAt_e hw h67, hb, pAt_101, show decide (b2c true = 0) = false from rfl, br_fq, if_neg (by omega)]
    refine pk_mo (pB_leaf (N := N) (v1 := 0) hw (I_25 h70 (by omega)) hr hk hT) (fun w2 r q => ?_)
    have k3 : ∀ j, p ≤ j → j < p + 1 → K j ≠ 3 := fun j h1 h2 => by
      rw [show j = p by omega]; omega
    refine Or.inl ⟨rfl, sc, 0, fun _ => 32, q.1, q.2.1, SCX_0 hr, HDs_no (fun j h1 h2 h3 => absurd h3 (k3 j h1 h2)), ⟨by omega, by omega⟩, by rw [lgS_0]; exact q.2.2.1, WNQ_f q, fun j h1 h2 h3 => absurd h3 (k3 j h1 h2), PNM_0 (fun z => by have := hr.2.1.1; rw [z] at this; exact absurd this (by decide)) (fun j h1 h2 h3 => absurd h3 (k3 j h1 h2)), ?_⟩
    exact ptn_leaf (k := K p) hn hlo hν hl hk k3
theorem PTX_name {f : Int32} (ct : CTZ m0 w0 K T nm Nk) (hn : nod m2 ν = (I ((3 : Nat) : Int), I (p : Nat), I (nm (Nk p) : Nat), c, f)) (hlo : lo < ν) (hν : ν ≤ n2) (hl : n2 ≤ 8015) (hk : K p = 3) (hT : p < T) (ho : o < 25) : PTX N w0 K T nm Nk m2 lo n2 ν p (p + 1) o NC 0 := by
  refine ⟨true, fun _ => rfl, fun d m3 kx => isP_y (k := 3) (by omega) (by omega) d m3 (KPX_16 hn hlo hν kx).1, fun d w sc o' hw kt h67 h70 ho2 hr => ?_⟩
  cases d with
  | zero => exact pk_none
  | succ d =>
    have hb : bPK (K p) = true := by rw [hk]; rfl
    have t4 := ct.1.1.1
    obtain ⟨a7, b7, hx, hu⟩ := ct.2.2.2 p hT hk
    have w7 : w.2.2.1 7 p = I (Nk p : Nat) := by rw [kt.2 7 (by decide)]; exact b7
    have hu2 : UND w (Nk p) ↔ nm (Nk p) = 0 := by
      unfold UND at hu ⊢
      rw [kt.2 16 (by decide), kt.2 15 (by decide)]
      exact hu
    show PK _ (fb_M_patternAt_0 N (rc_M_rowPattern N d) () w 0)
    rw [pAt_e hw h67, hb, pAt_101, show decide (b2c true = 0) = false from rfl, br_fq]
    cases sc with
    | nil => exact absurd hr.2.1.1 (by decide)
    | cons e t =>
      have sl : t.length + 1 ≤ 27 := hr.2.1.2
      refine pk_mo (pB_name (N := N) (nm := nm) (own := false) hw (I_25 h70 (by omega)) hr hk hT w7 hx hu2 rfl) (fun w2 r q => ?_)
      have jp : ∀ j, p ≤ j → j < p + 1 → j = p := fun j a b => by omega
      rcases q with ⟨q1, q⟩ | ⟨q1, q⟩
      · rw [q1] at hn
        refine Or.inl ⟨rfl, e :: t, 0, fun _ => 32, q.1, q.2.1, SCX_rf, HDs_no (fun j _ _ _ => ⟨by show t.length + 1 ≤ 32 + 1; omega, Nat.le_refl _⟩), ⟨by omega, by omega⟩, by rw [lgS_0]; exact q.2.2.1, WNQ_f q, fun j h1 h2 h3 => ?_, PNM_0 (fun z => by cases z) (fun j h1 h2 h3 h4 => ?_), ?_⟩
        · rw [jp j h1 h2]; exact ⟨fun z => absurd q1 z, fun _ => by show t.length + 1 ≤ 32 + 1; omega⟩
        · rw [jp j h1 h2] at h4; exact absurd q1 h4
        · exact ptn_und hn hlo hν hl (by omega) hk rfl
      · have dl := rfP_d (Nk := Nk) (K := K) (W := fun _ => rfL false (Nk p) (e :: t)) (p := p) (x := Nk p) (own := false) hr.2.2.2 (by omega) rfl hk rfl
        have xl := rfX_le (own := false) hr.2.2.2 hx
        refine Or.inl ⟨rfl, rfP false (Nk p) (e :: t), rfX false (Nk p) (e :: t), fun _ => rfL false (Nk p) (e :: t), q.1, q.2.1, dl.1, dl.2, ⟨by omega, xl.1⟩, q.2.2.1, WNQ_f q, fun j h1 h2 h3 => ?_, ?_, ?_⟩
        · rw [jp j h1 h2]
          refine ⟨fun _ z => (rf_y z).2.2, fun z => ?_⟩
          rcases z with z | z
          · exact absurd z q1
          · show t.length + 1 ≤ rfL false (Nk p) (e :: t) + 1
            rw [(rf_n z).2.2]; omega
        · cases hf : fnb (Nk p) (e :: t) with
          | true =>
            rw [(rf_y hf).1, (rf_y hf).2.1]
            have bd := hld_BD (x := Nk p) (sc := e :: t)
            have fb := BDs_fnb (x := Nk p) bd
            cases hh : hld (Nk p) (e :: t) with
            | nil => rw [hh] at bd; exact bd.elim
            | cons e2 t2 =>
              rw [hh] at bd fb
              refine ⟨Or.inl ⟨rfl, bd.1.1⟩, fun x hx2 => Or.inl (bd.1.1 ▸ hx2), fun j h1 h2 _ _ => ?_⟩
              rw [jp j h1 h2, fb, hf]
          | false =>
            rw [(rf_n hf).1, (rf_n hf).2.1]
            refine ⟨Or.inr ?_, fun x hx2 => ?_, fun j h1 h2 _ _ => ?_⟩
            · show e.1.length + 1 = (e.1 ++ [Nk p]).length
              rw [List.length_append, List.length_singleton]
            · have hx2 : x ∈ e.1 ++ [Nk p] := hx2
              rw [List.mem_append, List.mem_singleton] at hx2
              rcases hx2 with z | z
              · exact Or.inl z
              · rw [z]; exact Or.inr ⟨hf, p, ⟨Nat.le_refl _, by omega⟩, hk, rfl, q1⟩
            · rw [jp j h1 h2, fnb_cons]
              have : (e.1 ++ [Nk p]).contains (Nk p) = true := by rw [List.contains_iff_mem]; simp
              show ((e.1 ++ [Nk p]).contains (Nk p) || fnb (Nk p) t) = true
              rw [this]; rfl
        · exact ptn_name ct.2.2.1 hn hlo hν hl hr.2.2.2 hx q1 (by omega) hk rfl
end
end
section
set_option maxRecDepth 100000
def PXR (N : Nat) (w0 : MS) (K : Nat → Nat) (T : Nat) (nm Nk : Nat → Nat) (m2 : MS) (lo n2 o : Nat) : List Nat → Nat → Nat → Nat → Prop
  | [], _, _, _ => False
  | ν :: l, p, p2, X => ∃ (q : Nat) (mi : MS) (li ni X1 : Nat), PTX N w0 K T nm Nk mi li ni ν p q o NC1 X1 ∧ KPX li ni ν mi m2 ∧ (lo ≤ li ∧ ni ≤ n2) ∧ (li < ν ∧ ν ≤ ni) ∧ (l ≠ [] → ni < l.headD 0) ∧ m2.2.2.1 21 ν = I ((l.headD 0 : Nat) : Int) ∧ p < q ∧ ((l = [] ∧ q = p2 ∧ X = X1) ∨ (K q = 26 ∧ ∃ X2, PXR N w0 K T nm Nk m2 lo n2 o l (q + 1) p2 X2 ∧ X = max X1 X2))
section
variable {m0 w0 m w v u m1 m2 m3 w2 mi : MS} {K nm Nk W W2 : Nat → Nat} {T p n N q q2 X Y n1 n2 n3 lo li ni p2 ν μ x o o' kk : Nat} {sc sc1 sc2 sc3 t t2 : SCT} {e e2 : List Nat × List Nat × Nat} {NC ND : Nat → Prop} {S : SG_M_rowPattern} {k : Nat} {a b c g v1 : Int32} {l : List Nat} {Q Q1 Q2 : SCT → Nat → (Nat → Nat) → Prop}
theorem pt_neg (hw : WP w K T p) (h67 : w.1 67 = 0) (hk : K p = 34) (hl : p < T) (ho2 : w.1 70 < 25) (hR : RNs w sc) (hS0 : ∀ (u0 u : MS) a0, Kfc u0 u → KfE u0 (S.1 u a0)) (hS1 : ∀ (u0 u : MS) a0, Kfc u0 u → KfE u0 (S.2 u a0)) : PK (fun w2 (_ : Int32) => (K (p + 1) ≠ 1 ∧ FLW w2) ∨ (K (p + 1) = 1 ∧ WNQ K T (p + 2) sc (w.1 66) w w2)) (fb_M_patternAt_0 N S () w v1) := by
  have hb : bPK (K p) = true := by rw [hk]; rfl
  have hr : fb_M_patternAt_0 N S () w v1 = fb_M_patternAt_178 N S () (upI w 70 (w.1 70 + 1)) 1 (I ((p + 1 : Nat) : Int)) := by
    rw [pAt_e hw h67, hb, pAt_101, show decide (b2c true = 0) = false from rfl, br_fq, if_pos hk, opn_e ho2, bnd_s]
    have hM1 : WP (upI w 70 (w.1 70 + 1)) K T p := WP_e hw (by rw [upI_ne (by decide)]; exact hw.2.1) hw.2.2 rfl rfl
    unfold pAtB fb_M_patternAt_160
    obtain ⟨a, b, -⟩ := WP_i hM1
    rw [show ln 6 = 4002 from rfl, a, b, srt_dc hM1 srK_2, decide_eq_false (by omega), hM1.2.1, i_suc]
    rfl
  rw [hr]
  generalize hM : upI w 70 (w.1 70 + 1) = M
  have hM1 : WP M K T p := by rw [← hM]; exact WP_e hw (by rw [upI_ne (by decide)]; exact hw.2.1) hw.2.2 rfl rfl
  have q0 : WNQ K T p sc (w.1 66) M M := by
    have := WNQ_0 (w := M) (sc := sc) hM1 (by rw [← hM]; exact RNs_e hR (upI_ne (by decide)) (fun _ _ _ => rfl))
    have e : M.1 66 = w.1 66 := by rw [← hM]; exact upI_ne (by decide)
    rw [e] at this
    exact this
  have q1 : WNQ K T (p + 1) sc (w.1 66) M (upI M 69 (I ((p + 1 : Nat) : Int))) := WNQ_on q0 hl rfl
  unfold fb_M_patternAt_178
  refine pk_ltq (pk_ck (fun _ => ?_))
  rw [(WP_i q1.1).2.1, srt_dc q1.1 srK_4]
  by_cases k1 : K (p + 1) = 1
  · have hl2 : p + 1 < T := hw.1.1.lt hl (by omega) (by omega)
    rw [decide_eq_true k1, br_tq]
    unfold fb_M_patternAt_199 fb_M_patternAt_239
    refine pk_bnd (fun u5 r5 x5 => ?_)
    have q5 := WNQ_kr q1 (yr_fm_M_pattern Kr_rf u5 r5 x5)
    show PK _ _
    rw [show decide ((1 : Int32) = 0) = false from rfl, br_fq]
    refine pk_ck (fun _ => pk_bnd (fun u2 r2 x2 => pk_ck (fun _ => pk_ck (fun _ => pk_ltq ?_))))
    exact pk_mo (on_1 (by rw [hM]; exact WNQ_J (WNQ_kr q5 (yr_fm_M_term Kr_rf u2 r2 x2))) hl2) (fun w2 r z => Or.inr ⟨k1, z⟩)
  · rw [decide_eq_false k1, br_fq]
    refine pk_bnd (fun v r z => ?_)
    exact pk_mo (Kf_pk (yf_fb_M_patternAt_199 (u0 := v) (wrong_s (u0 := v) (by decide) v r z) (hS0 v) (hS1 v))) (fun w2 r z => Or.inl ⟨k1, z⟩)
theorem PTX_neg (hn : nod m2 ν = (I ((17 : Nat) : Int), a, I (μ : Nat), c, g)) (hlo : lo < ν) (hν : ν ≤ n2) (hl : n2 ≤ 8015) (hμ : lo < μ ∧ μ ≤ n2) (hkk : m2.2.2.1 16 μ = I (kk : Nat)) (hk23 : kk < 23) (hk : K p = 34) (hT : p < T) (ho : o < 25) (h1 : kk = 1 → K (p + 1) = 1 ∧ p2 = p + 2 ∧ X = 0) (h2 : kk ≠ 1 → K (p + 1) = 1 → NC (K (p + 2))) : PTX N w0 K T nm Nk m2 lo n2 ν p p2 o NC X := by
  refine ⟨decide (kk = 1), fun z => (h1 (of_decide_eq_true z)).2.2, fun d m3 kx => ?_, fun d w sc o' hw kt h67 h70 ho2 hr => ?_⟩
  · obtain ⟨e1, e2, -⟩ := KPX_16 hn hlo hν kx
    have e3 := congrArg (fun z => z.1) (KPX_nod kx hμ.1 hμ.2)
    have e3 : m3.2.2.1 16 μ = m2.2.2.1 16 μ := e3
    exact isP_17 (by omega) (by omega) hk23 d m3 e1 e2 (e3.trans hkk)
  · cases d with
    | zero => exact pk_none
    | succ d =>
      show PK _ (fb_M_patternAt_0 N (rc_M_rowPattern N d) () w 0)
      refine pk_mo (pt_neg hw h67 hk hT (I_25 h70 (by omega)) hr (rcS N d).1 (rcS N d).2) (fun w2 r z => ?_)
      rcases z with ⟨z1, z2⟩ | ⟨z1, z2⟩
      · refine Or.inr ⟨decide_eq_false (fun y => z1 (h1 y).1), Or.inl z2⟩
      · by_cases y : kk = 1
        · obtain ⟨-, rfl, -⟩ := h1 y
          have k3 : ∀ j, p ≤ j → j < p + 2 → K j ≠ 3 := fun j h1 h2 => by
            by_cases z : j = p
            · rw [z]; omega
            · rw [show j = p + 1 by omega]; omega
          refine Or.inl ⟨decide_eq_true y, sc, 0, fun _ => 32, z2.1, z2.2.1, SCX_0 hr, HDs_no (fun j h1 h2 h3 => absurd h3 (k3 j h1 h2)), ⟨by omega, by omega⟩, by rw [lgS_0]; exact z2.2.2.1, WNQ_f z2, fun j h1 h2 h3 => absurd h3 (k3 j h1 h2), PNM_0 (fun z => by have := hr.2.1.1; rw [z] at this; exact absurd this (by decide)) (fun j h1 h2 h3 => absurd h3 (k3 j h1 h2)), ptn_neg hn hlo hν hl k3⟩
        · exact Or.inr ⟨decide_eq_false y, Or.inr ⟨by rw [z2.2.2.2.1 67 (by decide)]; exact h67, p + 2, z2.1, h2 y z1⟩⟩
theorem nc1_n {k : Nat} (h : NC1 k) : k ≠ 21 ∧ k ≠ 23 ∧ k ≠ 25 ∧ k ≠ 26 ∧ k ≠ 29 := by
  have : ∀ k, k < 46 → (k = 21 ∨ k = 23 ∨ k = 25 ∨ k = 26 ∨ k = 29) → ¬ (0 < rkK k) := by decide
  unfold NC1 NC0 at h
  by_cases z : k = 21 ∨ k = 23 ∨ k = 25 ∨ k = 26 ∨ k = 29
  · rcases h with (h | h) | h
    · exact absurd h (this k (by omega) z)
    · omega
    · omega
  · omega
theorem pt_grp (hw : WP w K T p) (h67 : w.1 67 = 0) (hk : K p = 20) (ho2 : w.1 70 < 25) : fb_M_patternAt_0 N S () w v1 = bnd (S.2 (adv (upI w 70 (w.1 70 + 1)) p) v1) (fun u11 r11 => bnd (fm_M_needSign N u11 1) (fun u12 _ => fb_M_patternAt_388 N S () u12 (r11))) := by
  have hb : bPK (K p) = true := by rw [hk]; rfl
  rw [pAt_e hw h67, hb, pAt_101, show decide (b2c true = 0) = false from rfl, br_fq, if_neg (by omega), opn_e ho2, bnd_s]
  have hM1 : WP (upI w 70 (w.1 70 + 1)) K T p := WP_e hw (by rw [upI_ne (by decide)]; exact hw.2.1) hw.2.2 rfl rfl
  have h67 : (upI w 70 (w.1 70 + 1)).1 67 = 0 := by rw [upI_ne (by decide)]; exact h67
  unfold pAtB
  obtain ⟨a, b, -⟩ := WP_i hM1
  rw [show ln 6 = 4002 from rfl, a, b, srt_dc hM1 srK_2, srt_dc hM1 srK_4, srt_dc hM1 srK_1, srt_dc hM1 srK_5, tkS_e (k := 20) (s := 0) hM1 h67 (by decide) rfl, if_pos hk, decide_eq_false (show ¬ K p = 3 by omega), decide_eq_false (show ¬ K p = 1 by omega), decide_eq_false (show ¬ K p = 2 by omega), decide_eq_false (show ¬ K p = 4 by omega)]
  rfl
theorem PZW_in {D : MS} (h : PZW Nk K nm T q q2 sc D w2 Q1) (hp : p ≤ q) (hq : q2 < T) (k2 : K q2 ≠ 3) (g1 : ∀ j, p ≤ j → j < q → K j ≠ 3) (Di : ∀ k, k ∉ [32, 39, 66, 69, 70] → D.1 k = w.1 k) (D6 : D.1 66 = w.1 66) (D7 : D.1 70 = w.1 70 + 1) (Dr : ∀ k, k < 23 ∨ 65 ≤ k → D.2.2.1 k = w.2.2.1 k) (hQ : ∀ sc2 X W, SCX sc sc2 X → X ≤ 1400 → tot sc2 ≤ tot sc + (q2 - q) → Q1 sc2 X W → Q2 sc2 X W) : PZW Nk K nm T p (q2 + 1) sc w (upI (adv w2 q2) 70 ((adv w2 q2).1 70 - 1)) Q2 := by
  obtain ⟨sc2, X, W, a1, a2, a3, a4, a5, a6, a7, a8, a9, a10⟩ := h
  have g2 : ∀ j, q2 ≤ j → j < q2 + 1 → K j ≠ 3 := fun j h1 h2 => by rw [show j = q2 by omega]; exact k2
  refine ⟨sc2, X, W, WP_e (adv_p a1 hq) (by rw [upI_ne (by decide)]; exact (adv_p a1 hq).2.1) hq rfl rfl, RNs_e a2 (by rw [upI_ne (by decide)]; unfold adv; exact upI_ne (by decide)) (fun _ _ _ => rfl), a3, HDs_ext hp (by omega) g1 g2 a4, ⟨by omega, a5.2⟩, ?_, ⟨fun k hk => ?_, fun k hk => ?_⟩, WCN_gap a8 g1 g2, PNM_gap a9 ⟨hp, by omega⟩ g1 g2, hQ sc2 X W a3 a5.2 a5.1 a10⟩
  · rw [upI_ne (by decide)]; unfold adv; rw [upI_ne (by decide), a6, D6]
  · simp only [List.mem_cons, List.not_mem_nil, or_false] at hk
    by_cases z : k = 70
    · subst z; rw [upI_at]; unfold adv; rw [upI_ne (by decide), a7.1 70 (by decide), D7, i_ps]
    · rw [upI_ne z]; unfold adv; rw [upI_ne (by omega), a7.1 k (by simp only [List.mem_cons, List.not_mem_nil, or_false]; omega), Di k (by simp only [List.mem_cons, List.not_mem_nil, or_false]; omega)]
  · show w2.2.2.1 k = _
    rw [a7.2 k hk, Dr k hk]
theorem PTX_grp (hn : nod m2 ν = (I ((5 : Nat) : Int), a, I (μ : Nat), c, g)) (hlo : lo < ν) (hν : ν ≤ n2) (hl : n2 ≤ 8015) (h : PTX N w0 K T nm Nk m1 li n1 μ (p + 1) q (o + 1) NC1 X) (hli : lo ≤ li) (hk1 : KPO n1 m1 m2) (hk2 : Kcc m1 m2) (hn1 : n1 < ν) (hμ : μ ≤ n1) (hk : K p = 20) (hq : p < q) (hkq : K q = 21) (hT : q < T) (ho : o < 25) : PTX N w0 K T nm Nk m2 lo n2 ν p (q + 1) o NC X := by
  obtain ⟨isP, h0, h1, h2⟩ := h
  refine ⟨isP, h0, fun d m3 kx => ?_, fun d w sc o' hw kt h67 h70 ho2 hr => ?_⟩
  · obtain ⟨e1, e2, -⟩ := KPX_16 hn hlo hν kx
    exact isP_5 (by omega) d m3 e1 e2 (fun d => h1 d m3 (KPX_di hk1 hk2 kx (by omega) hn1 hli))
  · cases d with
    | zero => exact pk_none
    | succ d =>
      show PK _ (fb_M_patternAt_0 N (rc_M_rowPattern N d) () w 0)
      rw [pt_grp hw h67 hk (I_25 h70 (by omega))]
      generalize hD : adv (upI w 70 (w.1 70 + 1)) p = D
      have Di : ∀ k, k ≠ 69 → k ≠ 70 → D.1 k = w.1 k := fun k h1 h2 => by rw [← hD]; unfold adv; rw [upI_ne h1, upI_ne h2]
      have D7 : D.1 70 = w.1 70 + 1 := by rw [← hD]; unfold adv; rw [upI_ne (by decide), upI_at]
      have D5 : D.1 69 = I ((p + 1 : Nat) : Int) := by rw [← hD]; unfold adv; rw [upI_at]
      have Dr : D.2.2.1 = w.2.2.1 := by rw [← hD]; rfl
      have hw2 : WP D K T (p + 1) := WP_e hw D5 (by omega) (by rw [Dr]) (by rw [Dr])
      have kt2 : Ktc w0 D := ⟨fun k hk => by rw [Di k (fun z => by rw [z] at hk; revert hk; decide) (fun z => by rw [z] at hk; revert hk; decide)]; exact kt.1 k hk, fun k hk => by rw [Dr]; exact kt.2 k hk⟩
      have rn : RNs D sc := WFP_rn hr (Di 65 (by decide) (by decide)) Dr
      have g1 : ∀ j, p ≤ j → j < p + 1 → K j ≠ 3 := fun j h1 h2 => by rw [show j = p by omega]; omega
      have g2 : ∀ j, q ≤ j → j < q + 1 → K j ≠ 3 := fun j h1 h2 => by rw [show j = q by omega]; omega
      refine pk_bnd (pk_mo (h2 d D sc (o' + 1) hw2 kt2 (by rw [Di 67 (by decide) (by decide)]; exact h67) (by rw [D7, h70, i_suc]) (by omega) rn) (fun w2 r z => ?_))
      rcases z with ⟨z, hz⟩ | ⟨z, y⟩
      · obtain ⟨sc2, X, W, a1, a2, a3, a4, a5, a6, a7, a8⟩ := id hz
        rw [ndS_1 (s := 1) a1 (by rw [a7.1 67 (by decide), Di 67 (by decide) (by decide)]; exact h67) (by decide) rfl hkq, bnd_s]
        unfold fb_M_patternAt_388
        refine pk_ltq (pk_some (Or.inl ⟨z, ?_⟩))
        refine PZW_in hz (by omega) hT (by omega) g1 (fun k hk => Di k (fun z => hk (by rw [z]; decide)) (fun z => hk (by rw [z]; decide))) (Di 66 (by decide) (by decide)) D7 (fun k _ => by rw [Dr]) (fun sc2 X W _ _ _ b => ?_)
        exact ptn_grp (μ := μ) (q := p + 1) (q2 := q) (X := X) hn hlo hν (by omega) hl ⟨by omega, by omega, by omega⟩ g1 g2 (fun {m3} kx d cm => b d m3 cm (KPX_d hk1 hk2 kx (by omega) (by omega) hli))
      · refine pk_mo (Q := fun w2 (_ : Int32) => FLW w2) ?_ (fun w2 r y => Or.inr ⟨z, Or.inl y⟩)
        rcases y with y | ⟨y0, q', y1, y2⟩
        · have g : KfE w2 (bnd (fm_M_needSign N w2 1) (fun u12 _ => fb_M_patternAt_388 N (rc_M_rowPattern N d) () u12 r)) := Kf_bnd (yf_fm_M_needSign y) (fun _ _ z => yf_fb_M_patternAt_388 z ((rcS N d).1 w2) ((rcS N d).2 w2))
          exact Kf_pk g
        · refine pk_bnd (pk_mo (ndS_0 (N := N) (s := 1) y1 y0 (by decide) rfl (nc1_n y2).1) (fun v r2 z => ?_))
          exact Kf_pk (yf_fb_M_patternAt_388 (u0 := v) z ((rcS N d).1 v) ((rcS N d).2 v))
end
end
section
set_option maxRecDepth 100000
section
variable {m0 w0 m w v u m1 m2 m3 w1 w2 w5 mi : MS} {K nm Nk W W1 W2 : Nat → Nat} {T p n N q q2 X X1 X2 Y n1 n2 n3 lo li ni p2 ν μ x o o' kk : Nat} {sc sc1 sc2 sc3 t t2 : SCT} {e e2 : List Nat × List Nat × Nat} {NC ND : Nat → Prop} {S : SG_M_rowPattern} {k : Nat} {a b c g v1 v2 v3 v4 : Int32} {l : List Nat} {Q Q1 Q2 : SCT → Nat → (Nat → Nat) → Prop}
theorem PZW_fr (h : PZW Nk K nm T p p2 sc w w1 Q) (i : w2.1 = w1.1) (j : ∀ k, k < 23 ∨ 59 ≤ k → w2.2.2.1 k = w1.2.2.1 k) : PZW Nk K nm T p p2 sc w w2 Q := by
  obtain ⟨sc2, X, W, a1, a2, a3, a4, a5, a6, a7, a8⟩ := h
  exact ⟨sc2, X, W, WP_e a1 (by rw [i]; exact a1.2.1) a1.2.2 (j 6 (by omega)) (j 7 (by omega)), RNs_e a2 (by rw [i]) (fun k h1 h2 => j k (by omega)), a3, a4, a5, by rw [i]; exact a6, ⟨fun k hk => by rw [i]; exact a7.1 k hk, fun k hk => by rw [j k (by omega)]; exact a7.2 k hk⟩, a8⟩
theorem PZW_A {g : Nat → Int32} (h : PZW Nk K nm T p p2 sc w w1 Q) (hk : 23 ≤ k ∧ k < 59) : PZW Nk K nm T p p2 sc w (upA w1 k g) Q := by
  obtain ⟨sc2, X, W, a1, a2, a3, a4, a5, a6, a7, a8⟩ := h
  exact ⟨sc2, X, W, WP_e a1 a1.2.1 a1.2.2 (upA_no (by omega)) (upA_no (by omega)), RNs_e a2 rfl (fun j h1 h2 => upA_no (by omega)), a3, a4, a5, a6, ⟨a7.1, fun j hj => by rw [upA_no (by omega)]; exact a7.2 j hj⟩, a8⟩
theorem PZW_mo (h : PZW Nk K nm T p p2 sc w w1 Q1) (k : ∀ sc2 X W, SCX sc sc2 X → X ≤ 1400 → tot sc2 ≤ tot sc + (p2 - p) → Q1 sc2 X W → Q2 sc2 X W) : PZW Nk K nm T p p2 sc w w1 Q2 := by
  obtain ⟨sc2, X, W, a1, a2, a3, a4, a5, a6, a7, a8, a9, a10⟩ := h
  exact ⟨sc2, X, W, a1, a2, a3, a4, a5, a6, a7, a8, a9, k sc2 X W a3 a5.2 a5.1 a10⟩
theorem PRW_gap : ∀ {l : List Nat}, l ≠ [] → K p ≠ 3 → PRW N K nm m2 lo n2 false W l (p + 1) p2 sc sc2 X → PRW N K nm m2 lo n2 false W l p p2 sc sc2 X
  | [], h, _, _ => absurd rfl h
  | ν :: l, _, hk, ⟨q, q2, sc1, X1, X2, h1, g1, h2⟩ => ⟨q, q2, sc1, X1, X2, ⟨by omega, h1.2⟩, fun j j1 j2 => by
      by_cases z : j = p
      · rw [z]; exact hk
      · exact g1 j (by omega) j2, h2⟩
theorem PXR_ne (h : PXR N w0 K T nm Nk m2 lo n2 o l p p2 X) : l ≠ [] := by
  rintro rfl
  exact h
theorem PXR_lt : ∀ {l : List Nat} {p X : Nat}, PXR N w0 K T nm Nk m2 lo n2 o l p p2 X → p < p2
  | [], _, _, h => h.elim
  | ν :: l, p, X, ⟨q, mi, li, ni, X1, h1, h2, h3, h4, h5, h6, h7, h8⟩ => by
    rcases h8 with ⟨-, h8, -⟩ | ⟨-, X2, h8, -⟩
    · omega
    · have := PXR_lt h8; omega
theorem pxr_all (hl : n2 ≤ 8015) (hT : p2 ≤ T) (h26 : K p2 ≠ 26) : ∀ {l : List Nat} {p X : Nat}, PXR N w0 K T nm Nk m2 lo n2 o l p p2 X → ∃ isA : Bool, (isA = true → X = 0) ∧
    (∀ (d M : Nat) (m3 : MS) (ν0 : Int32) (Q : MS → Int32 → Prop), (∀ j, lo < j → j ≤ n2 → nod m3 j = nod m2 j ∧ m3.2.2.1 21 j = m2.2.2.1 21 j) → Kcc m2 m3 → (isA = false → Q m3 0) → (isA = true → ∀ M', PK Q (hg_Tr_isPattern N (hrc_Tr_isPattern N d) M' m3 ν0 0)) → PK Q (hg_Tr_isPattern N (hrc_Tr_isPattern N d) M m3 ν0 (I ((l.headD 0 : Nat) : Int)))) ∧
    (∀ (d M : Nat) (w : MS) (sc : SCT) (o' k : Nat) (v2 v3 v4 v5 : Int32) (Qf : MS → Int32 → Prop), WP w K T p → Ktc w0 w → w.1 67 = 0 → w.1 70 = I (o' : Nat) → o' ≤ o → RNs w sc → k + l.length ≤ 8 → (isA = false → ∀ w r, FLW w → Qf w r) → (isA = false → ∀ M w5 q v5 k, WP w5 K T q → w5.1 67 = 0 → NC1 (K q) → PK Qf (fb_M_rowPattern_151 N (rc_M_rowPattern N d) (gg_M_rowPattern N (rc_M_rowPattern N d) M) w5 0 v2 v3 v4 v5 k)) → (isA = true → ∀ M w5 v5 k, PZW Nk K nm T p p2 sc w w5 (fun sc2 X W => PRW N K nm m2 lo n2 false W l p p2 sc sc2 X) → PK Qf (fb_M_rowPattern_151 N (rc_M_rowPattern N d) (gg_M_rowPattern N (rc_M_rowPattern N d) M) w5 0 v2 v3 v4 v5 k)) → PK Qf (gg_M_rowPattern N (rc_M_rowPattern N d) M w 0 v2 v3 v4 v5 (I (k : Nat)) 1))
  | [], _, _, h => h.elim
  | ν :: l, p, X, ⟨q, mi, li, ni, X1, ⟨isP, i0, i1, i2⟩, h2, h3, h4, h5, h6, h7, h8⟩ => by
    have rest : (l = [] ∧ q = p2 ∧ X = X1) ∨ (K q = 26 ∧ l ≠ [] ∧ q + 1 < p2 ∧ ∃ X2, PXR N w0 K T nm Nk m2 lo n2 o l (q + 1) p2 X2 ∧ X = max X1 X2) := by
      rcases h8 with h8 | ⟨h8, X2, h9, h10⟩
      · exact Or.inl h8
      · exact Or.inr ⟨h8, PXR_ne h9, PXR_lt h9, X2, h9, h10⟩
    have out : ∀ (d : Nat) (M : Nat) (w : MS) (q : Nat) (k : Nat) (v2 v3 v4 v8 : Int32) (Qf : MS → Int32 → Prop), WP w K T q → w.1 67 = 0 → K q ≠ 26 → (∀ M k, PK Qf (fb_M_rowPattern_151 N (rc_M_rowPattern N d) (gg_M_rowPattern N (rc_M_rowPattern N d) M) w 0 v2 v3 v4 v8 k)) → PK Qf (fb_M_rowPattern_112 N (rc_M_rowPattern N d) (gg_M_rowPattern N (rc_M_rowPattern N d) M) w 0 v2 v3 v4 (I (k : Nat)) v8) := fun d M w q k v2 v3 v4 v8 Qf hw h0 hk h => by
      have o140 : PK Qf (fb_M_rowPattern_140 N (rc_M_rowPattern N d) (gg_M_rowPattern N (rc_M_rowPattern N d) M) w 0 v2 v3 v4 v8 (I (k : Nat) + 1)) := by
        unfold fb_M_rowPattern_140
        rw [tkS_e (k := 26) (s := 6) hw h0 (by decide) rfl, if_neg hk, bnd_s]
        cases M with
        | zero => exact pk_none
        | succ M =>
          show PK Qf (fb_M_rowPattern_66 N (rc_M_rowPattern N d) (gg_M_rowPattern N (rc_M_rowPattern N d) M) w 0 v2 v3 v4 v8 (I (k : Nat) + 1) 0)
          unfold fb_M_rowPattern_66
          rw [show decide ((0 : Int32) = 0) = true from rfl, br_tq]
          exact h M _
      unfold fb_M_rowPattern_112
      refine pk_br (fun _ => ?_) (fun _ => o140)
      rw [isS_e (k := 26) (s := 6) hw (by decide) rfl, if_neg hk, bnd_s, show decide ((0 : Int32) = 0) = true from rfl, br_tq]
      exact o140
    have first : ∀ (d M : Nat) (w : MS) (sc : SCT) (o' k : Nat) (v2 v3 v4 v5 : Int32) (Qf : MS → Int32 → Prop), WP w K T p → Ktc w0 w → w.1 67 = 0 → w.1 70 = I (o' : Nat) → o' ≤ o → RNs w sc → (isP = false → ∀ w r, FLW w → Qf w r) → (isP = false → ∀ M w5 q v5 k, WP w5 K T q → w5.1 67 = 0 → NC1 (K q) → PK Qf (fb_M_rowPattern_151 N (rc_M_rowPattern N d) (gg_M_rowPattern N (rc_M_rowPattern N d) M) w5 0 v2 v3 v4 v5 k)) → (isP = true → ∀ M w1 v8, PZW Nk K nm T p q sc w w1 (fun sc2 X W => PTN N K nm mi li ni ν false p q sc sc2 X W) → PK Qf (fb_M_rowPattern_112 N (rc_M_rowPattern N d) (gg_M_rowPattern N (rc_M_rowPattern N d) M) w1 0 v2 v3 v4 (I (k : Nat)) v8)) → PK Qf (gg_M_rowPattern N (rc_M_rowPattern N d) M w 0 v2 v3 v4 v5 (I (k : Nat)) 1) := fun d M w sc o' k v2 v3 v4 v5 Qf hw kt h67 h70 ho hr hF hD hT => by
      cases M with
      | zero => exact pk_none
      | succ M =>
        show PK Qf (fb_M_rowPattern_66 N (rc_M_rowPattern N d) (gg_M_rowPattern N (rc_M_rowPattern N d) M) w 0 v2 v3 v4 v5 (I (k : Nat)) 1)
        unfold fb_M_rowPattern_66
        rw [show decide ((1 : Int32) = 0) = false from rfl, br_fq, decide_eq_true h67, br_tq]
        refine pk_bnd (pk_mo (i2 d w sc o' hw kt h67 h70 ho hr) (fun w1 r1 z => ?_))
        rcases z with ⟨z, hz⟩ | ⟨z, y | ⟨y0, q', y1, y2⟩⟩
        · exact pk_br (fun _ => pk_ck (fun _ => pk_ltq (hT z M _ _ (PZW_A hz (by omega))))) (fun _ => pk_ck (fun _ => pk_ltq (hT z M _ _ (PZW_A hz (by omega)))))
        · refine pk_mo (Q := fun w2 _ => FLW w2) (Kf_pk (u0 := w1) ?_) (fun w2 r y => hF z w2 r y)
          refine Kf_br (Kf_ck (Kf_ltm (Kf_A y) (fun u h => ?_))) (Kf_ck (Kf_ltm (Kf_A y) (fun u h => ?_)))
          · exact yf_fb_M_rowPattern_112 h ((rcS N d).1 w1) ((rcS N d).2 w1) (gg_f (rcS N d).1 (rcS N d).2 M)
          · exact yf_fb_M_rowPattern_112 h ((rcS N d).1 w1) ((rcS N d).2 w1) (gg_f (rcS N d).1 (rcS N d).2 M)
        · have go : ∀ k' g, 23 ≤ k' → k' < 59 → PK Qf (fb_M_rowPattern_112 N (rc_M_rowPattern N d) (gg_M_rowPattern N (rc_M_rowPattern N d) M) (upA w1 k' g) 0 v2 v3 v4 (I (k : Nat)) r1) := fun k' g g1 g2 => by
            have hw6 : WP (upA w1 k' g) K T q' := WP_e y1 y1.2.1 y1.2.2 (upA_no (by omega)) (upA_no (by omega))
            exact out d M _ q' k v2 v3 v4 r1 Qf hw6 y0 (nc1_n y2).2.2.2.1 (fun M2 k2 => hD z M2 _ q' r1 k2 hw6 y0 y2)
          exact pk_br (fun _ => pk_ck (fun _ => pk_ltq (go 36 _ (by decide) (by decide)))) (fun _ => pk_ck (fun _ => pk_ltq (go 37 _ (by decide) (by decide))))
    have cfirst : ∀ (d M : Nat) (m3 : MS) (ν0 : Int32) (Q : MS → Int32 → Prop), (∀ j, lo < j → j ≤ n2 → nod m3 j = nod m2 j ∧ m3.2.2.1 21 j = m2.2.2.1 21 j) → Kcc m2 m3 → (isP = false → Q m3 0) → (isP = true → ∀ M', PK Q (hg_Tr_isPattern N (hrc_Tr_isPattern N d) M' m3 ν0 (I ((l.headD 0 : Nat) : Int)))) → PK Q (hg_Tr_isPattern N (hrc_Tr_isPattern N d) M m3 ν0 (I (ν : Nat))) := fun d M m3 ν0 Q hs hk hF hT => by
      cases M with
      | zero => exact pk_none
      | succ M =>
        show PK Q (hb_Tr_isPattern_129 N (hrc_Tr_isPattern N d) (hg_Tr_isPattern N (hrc_Tr_isPattern N d) M) m3 ν0 (I (ν : Nat)))
        unfold hb_Tr_isPattern_129
        rw [show decide (I (ν : Nat) = 0) = false from decide_eq_false (fun z => by
          have z : I (ν : Nat) = I ((0 : Nat) : Int) := z
          have := (I_eq (x := (ν : Nat)) (y := ((0 : Nat) : Int)) (by omega) (by omega) (by omega) (by omega)).mp z
          omega), br_fq]
        have kx : KPX li ni ν mi m3 := ⟨fun j j1 j2 => ⟨(hs j (by omega) (by omega)).1.trans (h2.1 j j1 j2).1, fun z => (hs j (by omega) (by omega)).2.trans ((h2.1 j j1 j2).2 z)⟩, Kc_tr h2.2 hk⟩
        refine pk_bnd (pk_mo (i1 d m3 kx) (fun v r z => ?_))
        obtain ⟨z1, z2⟩ := z
        subst z1
        subst z2
        cases hP : isP with
        | false =>
          rw [show decide (b2c false = 0) = true from rfl, br_tq]
          exact pk_ck (fun _ => pk_some (hF hP))
        | true =>
          rw [show decide (b2c true = 0) = false from rfl, br_fq]
          refine pk_ck (fun _ => ?_)
          rw [tnI (n := ν) rfl (by omega), (hs ν (by omega) (by omega)).2, h6]
          exact hT hP M
    rcases rest with ⟨rfl, rfl, rfl⟩ | ⟨k26, lne, qlt, X2, hr, hX⟩
    · refine ⟨isP, i0, fun d M m3 ν0 Q hs hk hF hT => cfirst d M m3 ν0 Q hs hk hF hT, fun d M w sc o' k v2 v3 v4 v5 Qf hw kt h67 h70 ho hr hkl hF hD hE => first d M w sc o' k v2 v3 v4 v5 Qf hw kt h67 h70 ho hr hF hD (fun hP M w1 v8 hz => ?_)⟩
      obtain ⟨sc2, X, W, a1, a2, a3, a4, a5, a6, a7, a8⟩ := id hz
      refine out d M w1 q k v2 v3 v4 v8 Qf a1 (by rw [a7.1 67 (by decide)]; exact h67) h26 (fun M2 k2 => hE hP M2 w1 v8 k2 (PZW_mo hz (fun sc2 X W s1 s2 s3 b => ?_)))
      exact ⟨p, q, sc2, X, 0, ⟨Nat.le_refl _, by omega, Nat.le_refl _⟩, fun j a b => absurd b (by omega), ⟨mi, li, ni, b, h2, h3, h4, fun z => absurd rfl z⟩, ⟨by omega, by omega⟩, h6, ⟨s3, SCX_len s1⟩, ⟨rfl, rfl, rfl⟩, by omega⟩
    · obtain ⟨isA, r0, r1, r2⟩ := pxr_all hl hT h26 hr
      refine ⟨isP && isA, fun z => by
        rw [Bool.and_eq_true] at z
        rw [hX, i0 z.1, r0 z.2]; rfl, fun d M m3 ν0 Q hs hk hF hT => ?_, fun d M w sc o' k v2 v3 v4 v5 Qf hw kt h67 h70 ho hrn hkl hF hD hE => ?_⟩
      · refine cfirst d M m3 ν0 Q hs hk (fun z => hF (by rw [z]; rfl)) (fun z M' => ?_)
        exact r1 d M' m3 ν0 Q hs hk (fun y => hF (by rw [y, Bool.and_false])) (fun y M2 => hT (by rw [z, y]; rfl) M2)
      · have hkl : k + (l.length + 1) ≤ 8 := hkl
        have ln1 : 1 ≤ l.length := by
          cases l with
          | nil => exact absurd rfl lne
          | cons a b => exact Nat.succ_le_succ (Nat.zero_le _)
        refine first d M w sc o' k v2 v3 v4 v5 Qf hw kt h67 h70 ho hrn (fun z => hF (by rw [z]; rfl)) (fun z => hD (by rw [z]; rfl)) (fun hP M w1 v8 hz => ?_)
        obtain ⟨sc1, X1, W1, a1, a2, a3, a4, a5, a6, a7, a8, a9, a10⟩ := id hz
        have h671 : w1.1 67 = 0 := by rw [a7.1 67 (by decide)]; exact h67
        have qT : q < T := by omega
        unfold fb_M_rowPattern_112 fb_M_rowPattern_140
        rw [i_suc, show (8 : Int32) = I ((8 : Nat) : Int) from rfl, I_dn (a := k + 1) (b := 8) (by omega) (by decide) rfl, decide_eq_false (p := k + 1 = 8) (by omega), br_fq, tkS_e (k := 26) (s := 6) a1 h671 (by decide) rfl, if_pos k26, bnd_s]
        have Di : ∀ k, k ≠ 69 → (adv w1 q).1 k = w1.1 k := fun k hk => by unfold adv; exact upI_ne hk
        refine r2 d M (adv w1 q) sc1 o' (k + 1) v2 v3 v4 v8 Qf (adv_p a1 qT) ⟨fun j hj => by rw [Di j (fun z => by rw [z] at hj; revert hj; decide), a7.1 j (by intro z; simp only [List.mem_cons, List.not_mem_nil, or_false] at z; rcases z with rfl | rfl | rfl | rfl <;> revert hj <;> decide)]; exact kt.1 j hj, fun j hj => by show w1.2.2.1 j = _; rw [a7.2 j (by unfold TRW at hj; simp only [List.mem_cons, List.not_mem_nil, or_false] at hj; omega)]; exact kt.2 j hj⟩ (by rw [Di 67 (by decide)]; exact h671) (by rw [Di 70 (by decide), a7.1 70 (by decide)]; exact h70) ho (RNs_e a2 (Di 65 (by decide)) (fun _ _ _ => rfl)) (by omega) (fun z => hF (by rw [z, Bool.and_false])) (fun z => hD (by rw [z, Bool.and_false])) (fun z M2 w5 v9 k9 hz2 => ?_)
        refine hE (by rw [hP, z]; rfl) M2 w5 v9 k9 ?_
        obtain ⟨sc2, X2, W2, b1, b2, b3, b4, b5, b6, b7, b8, b9, b10⟩ := hz2
        have gp : ∀ j, q ≤ j → j < q + 1 → K j ≠ 3 := fun j h1 h2 => by rw [show j = q by omega]; omega
        have ge : ∀ j, p2 ≤ j → j < p2 → K j ≠ 3 := fun j h1 h2 => absurd h2 (by omega)
        refine ⟨sc2, max X1 X2, mrg q W1 W2, b1, b2, SCX_tr a3 b3, ?_, ⟨by omega, by omega⟩, ?_, ?_, WCN_tr a8 (WCN_gap b8 gp ge) a3 (PNM_sn a9), PNM_tr a9 (PNM_gap b9 ⟨by omega, Nat.le_refl _⟩ gp ge) (by omega) (by omega) a3 b3, ?_⟩
        · refine HDs_tr (p2 := q) (by omega) (by omega) (HDs_w (fun j _ h => mrg_l h) a4) ?_
          exact HDs_ext (q := q + 1) (q2 := p2) (by omega) (Nat.le_refl _) gp ge (HDs_w (fun j h _ => mrg_r (by omega)) b4)
        · rw [b6, Di 66 (by decide), a6, lgS_tr a3]
        · exact WFP_tr a7 (WFP_tr ⟨fun k hk => Di k (fun z => hk (by rw [z]; decide)), fun k hk => rfl⟩ b7)
        · have rw2 := PRW_w (W2 := mrg q W1 W2) (fun j h _ => mrg_r (by omega)) b10
          refine ⟨p, q, sc1, X1, X2, ⟨Nat.le_refl _, by omega, by omega⟩, fun j a b => absurd b (by omega), ⟨mi, li, ni, PTN_w (fun j _ h => mrg_l h) a10, h2, h3, h4, h5⟩, ⟨by omega, by omega⟩, h6, ⟨a5.1, SCX_len a3⟩, PRW_gap lne (by omega) rw2, rfl⟩
end
end
section
set_option maxRecDepth 100000
section
variable {m0 w0 m w v u m1 m2 m3 w1 w2 w5 mi D : MS} {K nm Nk W W1 W2 : Nat → Nat} {T p n N q q2 r X X1 X2 Y n1 n2 n3 lo li ni p2 ν μ x o o' kk c0 l4 : Nat} {sc sc1 sc2 sc3 t t2 : SCT} {NC ND : Nat → Prop} {S : SG_M_rowPattern} {k : Nat} {a b c g v1 v2 v3 v4 : Int32} {l : List Nat}
theorem PXR_1 (h : PTX N w0 K T nm Nk m2 lo n2 ν p p2 o NC1 X) (hν : lo < ν ∧ ν ≤ n2) (h21 : m2.2.2.1 21 ν = 0) (hp : p < p2) : PXR N w0 K T nm Nk m2 lo n2 o [ν] p p2 X := ⟨p2, m2, lo, n2, X, h, ⟨fun _ _ _ => ⟨rfl, fun _ => rfl⟩, Kc_rf⟩, ⟨Nat.le_refl _, Nat.le_refl _⟩, hν, fun z => absurd rfl z, h21, hp, Or.inl ⟨rfl, rfl, rfl⟩⟩
theorem PXR_hd : ∀ {l : List Nat} {p X : Nat}, PXR N w0 K T nm Nk m2 lo n2 o l p p2 X → l.headD 0 ≤ l.getLastD 0 ∧ lo < l.headD 0 ∧ l.getLastD 0 ≤ n2
  | [], _, _, h => h.elim
  | [ν], _, _, ⟨_, _, _, _, _, _, _, h3, h4, _⟩ => ⟨Nat.le_refl _, by show lo < ν; omega, by show ν ≤ n2; omega⟩
  | ν :: μ :: l, p, X, ⟨q, mi, li, ni, X1, h1, h2, h3, h4, h5, h6, h7, h8⟩ => by
    rcases h8 with ⟨h8, -⟩ | ⟨-, X2, h8, -⟩
    · cases h8
    · obtain ⟨r1, r2, r3⟩ := PXR_hd h8
      have r1 : μ ≤ (μ :: l).getLastD 0 := r1
      have c : ni < μ := h5 (fun z => by cases z)
      refine ⟨?_, by show lo < ν; omega, r3⟩
      show ν ≤ (μ :: l).getLastD 0
      omega
theorem PXR_snoc (hn : n2 ≤ n3) (hk : Kcc m2 m3) (hμ : n2 < μ ∧ μ ≤ ni ∧ ni ≤ n3) (hli : lo ≤ li ∧ li < μ) (hp : PTX N w0 K T nm Nk mi li ni μ (p2 + 1) q2 o NC1 Y) (hx : KPX li ni μ mi m3) (h21 : m3.2.2.1 21 μ = 0) (hq : p2 + 1 < q2) (h26 : K p2 = 26) : ∀ {l : List Nat} {p X : Nat}, (∀ j, j ≤ n2 → nod m3 j = nod m2 j ∧ (j ≠ l.getLastD 0 → m3.2.2.1 21 j = m2.2.2.1 21 j)) → m3.2.2.1 21 (l.getLastD 0) = I (μ : Nat) → PXR N w0 K T nm Nk m2 lo n2 o l p p2 X → PXR N w0 K T nm Nk m3 lo n3 o (l ++ [μ]) p q2 (max X Y)
  | [], _, _, _, _, h => h.elim
  | [ν], p, X, hs, hy, ⟨q, mj, lj, nj, X1, h1, h2, h3, h4, h5, h6, h7, h8⟩ => by
    rcases h8 with ⟨-, h8, hX⟩ | ⟨-, X2, h8, -⟩
    · subst h8
      subst hX
      have hs : ∀ j, j ≤ n2 → nod m3 j = nod m2 j ∧ (j ≠ ν → m3.2.2.1 21 j = m2.2.2.1 21 j) := hs
      refine ⟨q, mj, lj, nj, X, h1, ⟨fun j j1 j2 => ⟨(hs j (by omega)).1.trans (h2.1 j j1 j2).1, fun z => ((hs j (by omega)).2 z).trans ((h2.1 j j1 j2).2 z)⟩, Kc_tr h2.2 hk⟩, ⟨h3.1, by omega⟩, h4, fun _ => ?_, hy, h7, Or.inr ⟨h26, Y, ⟨q2, mi, li, ni, Y, hp, hx, ⟨hli.1, hμ.2.2⟩, ⟨hli.2, hμ.2.1⟩, fun z => absurd rfl z, h21, hq, Or.inl ⟨rfl, rfl, rfl⟩⟩, rfl⟩⟩
      show nj < μ
      omega
    · exact h8.elim
  | ν :: κ :: l, p, X, hs, hy, ⟨q, mj, lj, nj, X1, h1, h2, h3, h4, h5, h6, h7, h8⟩ => by
    rcases h8 with ⟨h8, -⟩ | ⟨k26, X2, h8, hX⟩
    · cases h8
    · have hs : ∀ j, j ≤ n2 → nod m3 j = nod m2 j ∧ (j ≠ (κ :: l).getLastD 0 → m3.2.2.1 21 j = m2.2.2.1 21 j) := hs
      obtain ⟨d1, d2, d3⟩ := PXR_hd h8
      have d1 : κ ≤ (κ :: l).getLastD 0 := d1
      have c2 : nj < κ := h5 (fun z => by cases z)
      refine ⟨q, mj, lj, nj, X1, h1, ⟨fun j j1 j2 => ⟨(hs j (by omega)).1.trans (h2.1 j j1 j2).1, fun z => ((hs j (by omega)).2 (by omega)).trans ((h2.1 j j1 j2).2 z)⟩, Kc_tr h2.2 hk⟩, ⟨h3.1, by omega⟩, h4, fun _ => c2, ?_, h7, Or.inr ⟨k26, max X2 Y, PXR_snoc hn hk hμ hli hp hx h21 hq h26 hs hy h8, by omega⟩⟩
      show m3.2.2.1 21 ν = I (κ : Nat)
      rw [(hs ν (by omega)).2 (by omega)]
      exact h6
theorem PXR_k (hn : n2 ≤ n3) (hk : Kcc m2 m3) (ho : KPO n2 m2 m3) : ∀ {l : List Nat} {p X : Nat}, PXR N w0 K T nm Nk m2 lo n2 o l p p2 X → PXR N w0 K T nm Nk m3 lo n3 o l p p2 X
  | [], _, _, h => h.elim
  | ν :: l, p, X, ⟨q, mj, lj, nj, X1, h1, h2, h3, h4, h5, h6, h7, h8⟩ => by
    refine ⟨q, mj, lj, nj, X1, h1, ⟨fun j j1 j2 => ⟨(ho j (by omega)).1.trans (h2.1 j j1 j2).1, fun z => ((ho j (by omega)).2).trans ((h2.1 j j1 j2).2 z)⟩, Kc_tr h2.2 hk⟩, ⟨h3.1, by omega⟩, h4, h5, (ho ν (by omega)).2.trans h6, h7, ?_⟩
    rcases h8 with h8 | ⟨h8, X2, h9, h10⟩
    · exact Or.inl h8
    · exact Or.inr ⟨h8, X2, PXR_k hn hk ho h9, h10⟩
theorem rowP_b {kc : Nat} {v9 vt : Int32} {Qf : MS → Int32 → Prop} {d : Nat} (hw : WP w K T p) (h67 : w.1 67 = 0) (hl : p < T) (hr : RNs w sc) (hk : (K p = 22 ∧ kc = 23 ∧ v9 = 3 ∧ vt = 1) ∨ (K p = 24 ∧ kc = 25 ∧ v9 = 5 ∧ vt = 0)) (h1 : ∀ D r13, WP D K T (p + 1) → RNs D sc → D.1 66 = w.1 66 → WFP w D → K (p + 1) = kc → PK Qf (fb_M_rowPattern_194 N (rc_M_rowPattern N d) (gg_M_rowPattern N (rc_M_rowPattern N d) N) D v9 r13 0)) (h2 : ∀ D r13, WP D K T (p + 1) → RNs D sc → D.1 66 = w.1 66 → WFP w D → K (p + 1) ≠ kc → PK Qf (gg_M_rowPattern N (rc_M_rowPattern N d) N D 0 vt v9 r13 (-1) 0 1)) : PK Qf (fm_M_rowPattern N (rc_M_rowPattern N d) w 0) := by
  have key : ∀ t1, PK Qf (fb_M_rowPattern_27 N (rc_M_rowPattern N d) (gg_M_rowPattern N (rc_M_rowPattern N d) N) w 0 vt v9 t1) := fun t1 => by
    unfold fb_M_rowPattern_27
    refine pk_bnd (fun u13 r13 x13 => pk_ltq ?_)
    have f13 := yr_fm_M_pattern (u0 := w) Kr_rf u13 r13 x13
    have q13 := WNQ_kr (WNQ_0 hw hr) f13
    have qD : WNQ K T (p + 1) sc (w.1 66) w (upI u13 69 (u13.1 69 + 1)) := WNQ_on q13 hl (by rw [q13.1.2.1, i_suc])
    generalize hD : upI u13 69 (u13.1 69 + 1) = D at qD
    have D0 : D.1 67 = 0 := by rw [qD.2.2.2.1 67 (by decide)]; exact h67
    have kk : 20 ≤ kc ∧ kc ≤ 44 ∧ v9 = I (svK kc : Nat) := by
      rcases hk with ⟨-, rfl, rfl, -⟩ | ⟨-, rfl, rfl, -⟩ <;> exact ⟨by decide, by decide, rfl⟩
    rw [decide_eq_true D0, br_tq, isS_e (k := kc) (s := v9) qD.1 ⟨kk.1, kk.2.1⟩ kk.2.2, bnd_s]
    by_cases z : K (p + 1) = kc
    · rw [if_pos z, show decide ((1 : Int32) = 0) = false from rfl, br_fq]
      exact h1 D r13 qD.1 qD.2.1 qD.2.2.1 (WNQ_f qD) z
    · rw [if_neg z, show decide ((0 : Int32) = 0) = true from rfl, br_tq]
      exact h2 D r13 qD.1 qD.2.1 qD.2.2.1 (WNQ_f qD) z
  unfold fm_M_rowPattern fb_M_rowPattern_0 fb_M_rowPattern_15
  rw [isS_e (k := 22) (s := 2) hw (by decide) rfl]
  rcases hk with ⟨k1, rfl, rfl, rfl⟩ | ⟨k1, rfl, rfl, rfl⟩
  · rw [if_pos k1, bnd_s, show decide ((1 : Int32) = 0) = false from rfl, br_fq, br_fq]
    exact key 5
  · rw [if_neg (by omega), bnd_s, show decide ((0 : Int32) = 0) = true from rfl, br_tq, br_tq]
    exact key 6
theorem rowP_e {kc : Nat} {v9 v6 : Int32} {Qf : MS → Int32 → Prop} {G : MS → Int32 → Int32 → Int32 → Int32 → Int32 → Int32 → Int32 → Option (MS × Int32)} (hw : WP w K T q) (h67 : w.1 67 = 0) (hkc : 20 ≤ kc ∧ kc ≤ 44) (h9 : v9 = I (svK kc : Nat)) (hF : K q ≠ kc → ∀ w r, FLW w → Qf w r) (h1 : K q = kc → q < T → ∀ w', WP w' K T q → w'.1 = w.1 → (∀ k, k ≠ 35 → w'.2.2.1 k = w.2.2.1 k) → Qf (adv w' q) v4) : PK Qf (fb_M_rowPattern_194 N S G w v9 v4 v6) := by
  unfold fb_M_rowPattern_194
  refine pk_ck (fun _ => pk_ltq ?_)
  have hw2 : WP (upA w 35 (upd (w.2.2.1 35) v4.toNatClampNeg v6)) K T q := WP_e hw hw.2.1 hw.2.2 (upA_no (by decide)) (upA_no (by decide))
  by_cases z : K q = kc
  · have hl : q < T := hw.1.1.lt hw.2.2 (by omega) (by omega)
    rw [ndS_1 hw2 h67 hkc h9 z, bnd_s]
    exact pk_some (h1 z hl _ hw2 rfl (fun k hk => upA_no hk))
  · exact pk_bnd (pk_mo (ndS_0 (N := N) hw2 h67 hkc h9 z) (fun v r2 y => pk_some (hF z v v4 y)))
theorem isP_6 {isA : Bool} (hν : ν ≤ 8015) (hc : ∀ d M, PK (fun v r => v = m3 ∧ r = b2c isA) (hg_Tr_isPattern N (hrc_Tr_isPattern N d) M m3 (I (ν : Nat)) b)) (e1 : m3.2.2.1 18 ν = b) (e0 : m3.2.2.1 16 ν = I ((6 : Nat) : Int) ∨ m3.2.2.1 16 ν = I ((7 : Nat) : Int)) : ∀ (d : Nat), PK (fun v r => v = m3 ∧ r = b2c isA) (hrc_Tr_isPattern N d m3 (I (ν : Nat)))
  | 0 => pk_none
  | d + 1 => by
    show PK _ (hb_Tr_isPattern_0 N (hrc_Tr_isPattern N d) (hg_Tr_isPattern N (hrc_Tr_isPattern N d) N) m3 (I (ν : Nat)))
    unfold hb_Tr_isPattern_0
    refine pk_ck (fun z => ?_)
    rw [tnI (n := ν) rfl (by omega), e1]
    rcases e0 with e0 | e0
    · rw [e0, show decide (I ((6 : Nat) : Int) = 1) = false from rfl, br_fq, show decide (I ((6 : Nat) : Int) = 2) = false from rfl, br_fq, show decide (I ((6 : Nat) : Int) = 3) = false from rfl, br_fq, show decide (I ((6 : Nat) : Int) = 4) = false from rfl, br_fq, show decide (I ((6 : Nat) : Int) = 5) = false from rfl, br_fq, show decide (I ((6 : Nat) : Int) = 6) = true from rfl, br_tq]
      exact pk_ck (fun _ => hc d N)
    · rw [e0, show decide (I ((7 : Nat) : Int) = 1) = false from rfl, br_fq, show decide (I ((7 : Nat) : Int) = 2) = false from rfl, br_fq, show decide (I ((7 : Nat) : Int) = 3) = false from rfl, br_fq, show decide (I ((7 : Nat) : Int) = 4) = false from rfl, br_fq, show decide (I ((7 : Nat) : Int) = 5) = false from rfl, br_fq, show decide (I ((7 : Nat) : Int) = 6) = false from rfl, br_fq, show decide (I ((7 : Nat) : Int) = 7) = true from rfl, br_tq]
      exact pk_ck (fun _ => hc d N)
theorem isP_z6 {d : Nat} (hν : ν ≤ 8015) (e0 : m3.2.2.1 16 ν = I ((6 : Nat) : Int)) : ∀ M, PK (fun v r => v = m3 ∧ r = b2c true) (hg_Tr_isPattern N (hrc_Tr_isPattern N d) M m3 (I (ν : Nat)) 0)
  | 0 => pk_none
  | M + 1 => by
    show PK _ (hb_Tr_isPattern_129 N (hrc_Tr_isPattern N d) (hg_Tr_isPattern N (hrc_Tr_isPattern N d) M) m3 (I (ν : Nat)) 0)
    unfold hb_Tr_isPattern_129 hb_Tr_isPattern_186 hb_Tr_isPattern_191
    rw [show decide ((0 : Int32) = 0) = true from rfl, br_tq, tnI (n := ν) rfl (by omega), e0, show decide (I ((6 : Nat) : Int) = 6) = true from rfl, br_tq]
    exact pk_ck (fun _ => pk_ck (fun _ => pk_some ⟨rfl, rfl⟩))
theorem isP_z7 {d : Nat} {isT : Bool} (hν : ν ≤ 8015) (e0 : m3.2.2.1 16 ν = I ((7 : Nat) : Int)) (e2 : m3.2.2.1 20 ν = I (c0 : Nat)) (hc : (c0 = 0 ∧ isT = true) ∨ (1 ≤ c0 ∧ c0 ≤ 8015 ∧ ∀ d, PK (fun v r => v = m3 ∧ r = b2c isT) (hrc_Tr_isPattern N d m3 (I (c0 : Nat))))) : ∀ M, PK (fun v r => v = m3 ∧ r = b2c isT) (hg_Tr_isPattern N (hrc_Tr_isPattern N d) M m3 (I (ν : Nat)) 0)
  | 0 => pk_none
  | M + 1 => by
    show PK _ (hb_Tr_isPattern_129 N (hrc_Tr_isPattern N d) (hg_Tr_isPattern N (hrc_Tr_isPattern N d) M) m3 (I (ν : Nat)) 0)
    unfold hb_Tr_isPattern_129 hb_Tr_isPattern_186 hb_Tr_isPattern_191
    rw [show decide ((0 : Int32) = 0) = true from rfl, br_tq, tnI (n := ν) rfl (by omega), e0, show decide (I ((7 : Nat) : Int) = 6) = false from rfl, br_fq, e2]
    refine pk_ck (fun _ => pk_ck (fun _ => ?_))
    rcases hc with ⟨rfl, rfl⟩ | ⟨c1, c2, hc⟩
    · rw [show decide (I ((0 : Nat) : Int) = 0) = true from rfl, br_tq]
      exact pk_ck (fun _ => pk_some ⟨rfl, rfl⟩)
    · rw [show decide (I (c0 : Nat) = 0) = false from decide_eq_false (fun z => by
          have z : I (c0 : Nat) = I ((0 : Nat) : Int) := z
          have := (I_eq (x := (c0 : Nat)) (y := ((0 : Nat) : Int)) (by omega) (by omega) (by omega) (by omega)).mp z
          omega), br_fq]
      refine pk_ck (fun _ => pk_bnd (pk_mo (hc d) (fun v r y => ?_)))
      obtain ⟨rfl, rfl⟩ := y
      cases isT with
      | false => rw [show decide (b2c false = 0) = true from rfl, br_tq]; exact pk_ck (fun _ => pk_some ⟨rfl, rfl⟩)
      | true => rw [show decide (b2c true = 0) = false from rfl, br_fq]; exact pk_ck (fun _ => pk_some ⟨rfl, rfl⟩)
theorem pt_rw {Qf : MS → Int32 → Prop} {d : Nat} (hw : WP w K T p) (h67 : w.1 67 = 0) (h0 : w.1 70 < 25) (hk : K p = 22 ∨ K p = 24) (hr : RNs w sc) (h : ∀ d, PK (fun w2 r => PK Qf (fb_M_patternAt_388 N S () w2 r)) (fm_M_rowPattern N (rc_M_rowPattern N d) (upI w 70 (w.1 70 + 1)) 0)) (hS : ∀ u r, fb_M_patternAt_388 N (rc_M_rowPattern N d) () u r = fb_M_patternAt_388 N S () u r) : PK Qf (fm_M_patternAt N (rc_M_rowPattern N d) w 0) := by
  rw [pB_row hw h67 h0 hk]
  cases d with
  | zero => exact pk_none
  | succ d =>
    refine pk_bnd (pk_mo (h d) (fun w2 r z => ?_))
    exact z
theorem upI70_k (kt : Ktc w0 w) {y : Int32} : Ktc w0 (upI w 70 y) := ⟨fun k hk => by rw [upI_ne (fun z => by rw [z] at hk; revert hk; decide)]; exact kt.1 k hk, kt.2⟩
theorem WFP_Kt (kt : Ktc w0 w) (h : WFP w v) : Ktc w0 v := Kt_tr kt (WFP_k h)
theorem PTX_tup (hn : nod m2 ν = (I ((6 : Nat) : Int), a, I ((l.headD 0 : Nat) : Int), c, g)) (hlo : lo < ν) (hν : ν ≤ n2) (hl : n2 ≤ 8015) (h : (l = [] ∧ q = p + 1 ∧ X = 0) ∨ (PXR N w0 K T nm Nk m1 lo n1 (o + 1) l (p + 1) q X ∧ l.length ≤ 8 ∧ K (p + 1) ≠ 23)) (hk1 : KPO n1 m1 m2) (hk2 : Kcc m1 m2) (hn1 : n1 < ν) (hk : K p = 22) (hkq : K q = 23) (hT : q < T) (ho : o < 25) (hpq : p < q) : PTX N w0 K T nm Nk m2 lo n2 ν p (q + 1) o NC X := by
  have g1 : ∀ j, p ≤ j → j < p + 1 → K j ≠ 3 := fun j h1 h2 => by rw [show j = p by omega]; omega
  have g2 : ∀ j, q ≤ j → j < q + 1 → K j ≠ 3 := fun j h1 h2 => by rw [show j = q by omega]; omega
  have fin : ∀ (w : MS) (sc : SCT) (D w5 w' : MS), WFP (upI w 70 (w.1 70 + 1)) D → D.1 66 = w.1 66 → PZW Nk K nm T (p + 1) q sc D w5 (fun sc2 X W => PRW N K nm m1 lo n1 false W l (p + 1) q sc sc2 X) → WP w' K T q → w'.1 = w5.1 → (∀ k, k ≠ 35 → w'.2.2.1 k = w5.2.2.1 k) → PZW Nk K nm T p (q + 1) sc w (upI (adv w' q) 70 ((adv w' q).1 70 - 1)) (fun sc2 X W => PTN N K nm m2 lo n2 ν false p (q + 1) sc sc2 X W) := fun w sc D w5 w' hf h6 hz hw' e1 e2 => by
    have hz2 : PZW Nk K nm T (p + 1) q sc D w' (fun sc2 X W => PRW N K nm m1 lo n1 false W l (p + 1) q sc sc2 X) := by
      obtain ⟨sc2, X, W, a1, a2, a3, a4, a5, a6, a7, a8⟩ := hz
      exact ⟨sc2, X, W, hw', RNs_e a2 (by rw [e1]) (fun j h1 h2 => e2 j (by omega)), a3, a4, a5, by rw [e1]; exact a6, ⟨fun k hk => by rw [e1]; exact a7.1 k hk, fun k hk => by rw [e2 k (by omega)]; exact a7.2 k hk⟩, a8⟩
    refine PZW_in hz2 (by omega) hT (by omega) g1 (fun k hk => ?_) h6 ?_ (fun k hk => ?_) (fun sc2 X W s1 s2 s3 b => ?_)
    · simp only [List.mem_cons, List.not_mem_nil, or_false] at hk
      rw [hf.1 k (by simp only [List.mem_cons, List.not_mem_nil, or_false]; omega), upI_ne (by omega)]
    · rw [hf.1 70 (by decide), upI_at]
    · rw [hf.2 k hk]; rfl
    · exact ptn_tup (l := l) (q := p + 1) (q2 := q) hn hlo hν hl ⟨by omega, by omega, by omega⟩ g1 g2 (by omega) (m1 := m1) (n1 := n1) b hk1 hk2 hn1
  have ex : ∃ isA : Bool, (isA = true → X = 0) ∧ (∀ m3, KPX lo n2 ν m2 m3 → ∀ d M, PK (fun v r => v = m3 ∧ r = b2c isA) (hg_Tr_isPattern N (hrc_Tr_isPattern N d) M m3 (I (ν : Nat)) (I ((l.headD 0 : Nat) : Int)))) ∧ ∀ (d : Nat) (w : MS) (sc : SCT) (o' : Nat) (Qf : MS → Int32 → Prop), WP w K T p → Ktc w0 w → w.1 67 = 0 → w.1 70 = I ((o' + 1 : Nat) : Int) → o' ≤ o → RNs w sc → (isA = false → ∀ w r, FLW w → Qf w r) → (isA = true → ∀ D w5 w' r, WFP w D → D.1 66 = w.1 66 → PZW Nk K nm T (p + 1) q sc D w5 (fun sc2 X W => PRW N K nm m1 lo n1 false W l (p + 1) q sc sc2 X) → WP w' K T q → w'.1 = w5.1 → (∀ k, k ≠ 35 → w'.2.2.1 k = w5.2.2.1 k) → Qf (adv w' q) r) → PK Qf (fm_M_rowPattern N (rc_M_rowPattern N d) w 0) := by
    rcases h with ⟨rfl, rfl, rfl⟩ | ⟨hx, hlen, h23⟩
    · refine ⟨true, fun _ => rfl, fun m3 kx d M => isP_z6 (by omega) (KPX_16 hn hlo hν kx).1 M, fun d w sc o' Qf hw kt h67 h70 ho2 hr hF hE => ?_⟩
      refine rowP_b (kc := 23) (v9 := 3) (vt := 1) hw h67 (by omega) hr (Or.inl ⟨hk, rfl, rfl, rfl⟩) (fun D r13 hD rD D6 fD k23 => ?_) (fun D r13 _ _ _ _ z => absurd hkq z)
      have D0 : D.1 67 = 0 := by rw [fD.1 67 (by decide)]; exact h67
      refine rowP_e (kc := 23) hD D0 (by decide) rfl (fun z => absurd hkq z) (fun _ _ w' hw' e1 e2 => hE rfl D D w' r13 fD D6 ⟨sc, 0, fun _ => 32, hD, rD, SCX_0 hr, HDs_no (fun j h1 h2 => absurd h2 (by omega)), ⟨by omega, by omega⟩, by rw [lgS_0], ⟨fun _ _ => rfl, fun _ _ => rfl⟩, fun j h1 h2 => absurd h2 (by omega), PNM_0 (fun z => by have := hr.2.1.1; rw [z] at this; exact absurd this (by decide)) (fun j h1 h2 => absurd h2 (by omega)), ⟨rfl, rfl, rfl⟩⟩ hw' e1 e2)
    · obtain ⟨isA, r0, r1, r2⟩ := pxr_all (by omega) (by omega) (by omega) hx
      refine ⟨isA, r0, fun m3 kx d M => ?_, fun d w sc o' Qf hw kt h67 h70 ho2 hr hF hE => ?_⟩
      · have ck := chi_k hk1 hk2 hn1 hν kx
        refine r1 d M m3 (I (ν : Nat)) _ ck.1 ck.2 (fun z => ⟨rfl, by rw [z]; rfl⟩) (fun z M' => ?_)
        rw [z]
        exact isP_z6 (by omega) (KPX_16 hn hlo hν kx).1 M'
      · refine rowP_b (kc := 23) (v9 := 3) (vt := 1) hw h67 (by omega) hr (Or.inl ⟨hk, rfl, rfl, rfl⟩) (fun D r13 _ _ _ _ z => absurd z h23) (fun D r13 hD rD D6 fD _ => ?_)
        have D0 : D.1 67 = 0 := by rw [fD.1 67 (by decide)]; exact h67
        refine r2 d N D sc (o' + 1) 0 1 3 r13 (-1) Qf hD (WFP_Kt kt fD) D0 (by rw [fD.1 70 (by decide)]; exact h70) (by omega) rD (by omega) hF (fun hA M w5 q5 v5 k5 hw5 h5 nc => ?_) (fun z M w5 v5 k5 hz => ?_)
        · unfold fb_M_rowPattern_151
          rw [show decide ((1 : Int32) = 0) = false from rfl, br_fq]
          exact rowP_e (kc := 23) hw5 h5 (by decide) rfl (fun _ => hF hA) (fun z => absurd z (nc1_n nc).2.1)
        · unfold fb_M_rowPattern_151
          rw [show decide ((1 : Int32) = 0) = false from rfl, br_fq]
          obtain ⟨sc2, X, W, a1, a2, a3, a4, a5, a6, a7, a8⟩ := id hz
          exact rowP_e (kc := 23) a1 (by rw [a7.1 67 (by decide)]; exact D0) (by decide) rfl (fun z => absurd hkq z) (fun _ _ w' hw' e1 e2 => hE z D w5 w' r13 fD D6 hz hw' e1 e2)
  obtain ⟨isA, x0, x1, x2⟩ := ex
  refine ⟨isA, x0, fun d m3 kx => isP_6 (by omega) (x1 m3 kx) (KPX_16 hn hlo hν kx).2.1 (Or.inl (KPX_16 hn hlo hν kx).1) d, fun d w sc o' hw kt h67 h70 ho2 hr => ?_⟩
  cases d with
  | zero => exact pk_none
  | succ d =>
    refine pt_rw (S := rc_M_rowPattern N d) hw h67 (I_25 h70 (by omega)) (Or.inl hk) hr (fun d2 => ?_) (fun _ _ => rfl)
    have hw2 : WP (upI w 70 (w.1 70 + 1)) K T p := WP_e hw (by rw [upI_ne (by decide)]; exact hw.2.1) hw.2.2 rfl rfl
    refine x2 d2 (upI w 70 (w.1 70 + 1)) sc o' _ hw2 (upI70_k kt) (by rw [upI_ne (by decide)]; exact h67) (by rw [upI_at, h70, i_suc]) ho2 (WFP_rn hr (upI_ne (by decide)) rfl) (fun hA w2 r z => ?_) (fun z D w5 w' r fD D6 hz hw' e1 e2 => ?_)
    · refine pk_mo (Q := fun w2 (_ : Int32) => FLW w2) (Kf_pk (yf_fb_M_patternAt_388 (u0 := w2) z ((rcS N d).1 w2) ((rcS N d).2 w2))) (fun w3 r3 z3 => ?_)
      exact Or.inr ⟨hA, Or.inl z3⟩
    · unfold fb_M_patternAt_388
      exact pk_ltq (pk_some (Or.inl ⟨z, fin w sc D w5 w' fD (by rw [D6, upI_ne (by decide)]) hz hw' e1 e2⟩))
theorem PZW_two {Q1 Q2 : SCT → Nat → (Nat → Nat) → Prop} (hp : p ≤ q) (hk : K q ≠ 3) (hq2 : q + 1 ≤ p2) (h : WP w1 K T q ∧ RNs w1 sc1 ∧ SCX sc sc1 X1 ∧ HDs Nk K W1 p q sc sc1 ∧ (tot sc1 ≤ tot sc + (q - p) ∧ X1 ≤ 1400) ∧ w1.1 66 = lgS sc X1 (w.1 66) ∧ WFP w w1 ∧ WCN Nk K nm W1 p q sc ∧ PNM Nk K nm p q sc sc1 X1) (Di : ∀ k, k ≠ 69 → D.1 k = w1.1 k) (Dr : D.2.2.1 = w1.2.2.1) (h2 : PZW Nk K nm T (q + 1) p2 sc1 D w2 Q1) (hQ : ∀ sc2 X2 W2, SCX sc1 sc2 X2 → X2 ≤ 1400 → tot sc2 ≤ tot sc1 + (p2 - (q + 1)) → Q1 sc2 X2 W2 → Q2 sc2 (max X1 X2) (mrg q W1 W2)) : PZW Nk K nm T p p2 sc w w2 Q2 := by
  obtain ⟨a1, a2, a3, a4, a5, a6, a7, a8, a9⟩ := h
  obtain ⟨sc2, X2, W2, b1, b2, b3, b4, b5, b6, b7, b8, b9, b10⟩ := h2
  have gp : ∀ j, q ≤ j → j < q + 1 → K j ≠ 3 := fun j h1 h2 => by rw [show j = q by omega]; exact hk
  have ge : ∀ j, p2 ≤ j → j < p2 → K j ≠ 3 := fun j h1 h2 => absurd h2 (by omega)
  refine ⟨sc2, max X1 X2, mrg q W1 W2, b1, b2, SCX_tr a3 b3, ?_, ⟨by omega, by omega⟩, ?_, ?_, WCN_tr a8 (WCN_gap b8 gp ge) a3 (PNM_sn a9), PNM_tr a9 (PNM_gap b9 ⟨by omega, Nat.le_refl _⟩ gp ge) hp (by omega) a3 b3, hQ sc2 X2 W2 b3 b5.2 b5.1 b10⟩
  · refine HDs_tr (p2 := q) hp (by omega) (HDs_w (fun j _ h => mrg_l h) a4) ?_
    exact HDs_ext (q := q + 1) (q2 := p2) (by omega) (Nat.le_refl _) gp ge (HDs_w (fun j h _ => mrg_r (by omega)) b4)
  · rw [b6, Di 66 (by decide), a6, lgS_tr a3]
  · refine WFP_tr a7 (WFP_tr ⟨fun k hk => Di k (fun z => hk (by rw [z]; decide)), fun k hk => by rw [Dr]⟩ b7)
theorem PTX_lst (hn : nod m2 ν = (I ((7 : Nat) : Int), a, I ((l.headD 0 : Nat) : Int), c, I (c0 : Nat))) (hlo : lo < ν) (hν : ν ≤ n2) (hl : n2 ≤ 8015) (h : (l = [] ∧ c0 = 0 ∧ q = p + 1 ∧ r = q ∧ X = 0) ∨ (∃ X1, PXR N w0 K T nm Nk m1 lo n1 (o + 1) l (p + 1) q X1 ∧ l.length ≤ 8 ∧ K (p + 1) ≠ 25 ∧ ((c0 = 0 ∧ r = q ∧ X = X1) ∨ (K q = 29 ∧ q + 1 < r ∧ (lo ≤ l4 ∧ l4 < c0 ∧ c0 ≤ n1) ∧ ∃ X3, PTX N w0 K T nm Nk m1 l4 n1 c0 (q + 1) r (o + 1) NC1 X3 ∧ X = max X1 X3)))) (hk1 : KPO n1 m1 m2) (hk2 : Kcc m1 m2) (hn1 : n1 < ν) (hk : K p = 24) (hkr : K r = 25) (hT : r < T) (ho : o < 25) (hpq : p < q ∧ q ≤ r) : PTX N w0 K T nm Nk m2 lo n2 ν p (r + 1) o NC X := by
  have g1 : ∀ j, p ≤ j → j < p + 1 → K j ≠ 3 := fun j h1 h2 => by rw [show j = p by omega]; omega
  have g2 : ∀ j, r ≤ j → j < r + 1 → K j ≠ 3 := fun j h1 h2 => by rw [show j = r by omega]; omega
  have fin : ∀ (w : MS) (sc : SCT) (D w5 w' : MS), WFP (upI w 70 (w.1 70 + 1)) D → D.1 66 = w.1 66 → PZW Nk K nm T (p + 1) r sc D w5 (fun sc2 X W => PTN N K nm m2 lo n2 ν false p (r + 1) sc sc2 X W) → WP w' K T r → w'.1 = w5.1 → (∀ k, k ≠ 35 → w'.2.2.1 k = w5.2.2.1 k) → PZW Nk K nm T p (r + 1) sc w (upI (adv w' r) 70 ((adv w' r).1 70 - 1)) (fun sc2 X W => PTN N K nm m2 lo n2 ν false p (r + 1) sc sc2 X W) := fun w sc D w5 w' hf h6 hz hw' e1 e2 => by
    have hz2 : PZW Nk K nm T (p + 1) r sc D w' (fun sc2 X W => PTN N K nm m2 lo n2 ν false p (r + 1) sc sc2 X W) := by
      obtain ⟨sc2, X, W, a1, a2, a3, a4, a5, a6, a7, a8⟩ := hz
      exact ⟨sc2, X, W, hw', RNs_e a2 (by rw [e1]) (fun j h1 h2 => e2 j (by omega)), a3, a4, a5, by rw [e1]; exact a6, ⟨fun k hk => by rw [e1]; exact a7.1 k hk, fun k hk => by rw [e2 k (by omega)]; exact a7.2 k hk⟩, a8⟩
    refine PZW_in hz2 (by omega) hT (by omega) g1 (fun k hk => ?_) h6 ?_ (fun k hk => ?_) (fun sc2 X W s1 s2 s3 b => b)
    · simp only [List.mem_cons, List.not_mem_nil, or_false] at hk
      rw [hf.1 k (by simp only [List.mem_cons, List.not_mem_nil, or_false]; omega), upI_ne (by omega)]
    · rw [hf.1 70 (by decide), upI_at]
    · rw [hf.2 k hk]; rfl
  have ex : ∃ isA : Bool, (isA = true → X = 0) ∧ (∀ m3, KPX lo n2 ν m2 m3 → ∀ d M, PK (fun v r => v = m3 ∧ r = b2c isA) (hg_Tr_isPattern N (hrc_Tr_isPattern N d) M m3 (I (ν : Nat)) (I ((l.headD 0 : Nat) : Int)))) ∧ ∀ (d : Nat) (w : MS) (sc : SCT) (o' : Nat) (Qf : MS → Int32 → Prop), WP w K T p → Ktc w0 w → w.1 67 = 0 → w.1 70 = I ((o' + 1 : Nat) : Int) → o' ≤ o → RNs w sc → (isA = false → ∀ w r, FLW w → Qf w r) → (isA = true → ∀ D w5 w' r5, WFP w D → D.1 66 = w.1 66 → PZW Nk K nm T (p + 1) r sc D w5 (fun sc2 X W => PTN N K nm m2 lo n2 ν false p (r + 1) sc sc2 X W) → WP w' K T r → w'.1 = w5.1 → (∀ k, k ≠ 35 → w'.2.2.1 k = w5.2.2.1 k) → Qf (adv w' r) r5) → PK Qf (fm_M_rowPattern N (rc_M_rowPattern N d) w 0) := by
    rcases h with ⟨rfl, rfl, rfl, rfl, rfl⟩ | ⟨Xr, hx, hlen, h25, ht⟩
    · refine ⟨true, fun _ => rfl, fun m3 kx d M => isP_z7 (by omega) (KPX_16 hn hlo hν kx).1 (KPX_16 hn hlo hν kx).2.2 (Or.inl ⟨rfl, rfl⟩) M, fun d w sc o' Qf hw kt h67 h70 ho2 hr hF hE => ?_⟩
      refine rowP_b (kc := 25) (v9 := 5) (vt := 0) hw h67 (by omega) hr (Or.inr ⟨hk, rfl, rfl, rfl⟩) (fun D r13 hD rD D6 fD _ => ?_) (fun D r13 _ _ _ _ z => absurd hkr z)
      have D0 : D.1 67 = 0 := by rw [fD.1 67 (by decide)]; exact h67
      refine rowP_e (kc := 25) hD D0 (by decide) rfl (fun z => absurd hkr z) (fun _ _ w' hw' e1 e2 => hE rfl D D w' r13 fD D6 ⟨sc, 0, fun _ => 32, hD, rD, SCX_0 hr, HDs_no (fun j h1 h2 => absurd h2 (by omega)), ⟨by omega, by omega⟩, by rw [lgS_0], ⟨fun _ _ => rfl, fun _ _ => rfl⟩, fun j h1 h2 => absurd h2 (by omega), PNM_0 (fun z => by have := hr.2.1.1; rw [z] at this; exact absurd this (by decide)) (fun j h1 h2 => absurd h2 (by omega)), ?_⟩ hw' e1 e2)
      have := ptn_lst (N := N) (K := K) (nm := nm) (own := false) (W := fun _ => 32) (sc := sc) (sc2 := sc) (sc3 := sc) (l := []) (q := p + 1) (q2 := p + 1) (q3 := p + 1) (p2 := p + 1 + 1) (X := 0) (X3 := 0) hn hlo hν hl ⟨by omega, by omega, by omega, by omega⟩ g1 g2 ⟨by omega, by omega⟩ (m1 := m1) (n1 := n1) ⟨rfl, rfl, rfl⟩ hk1 hk2 hn1 (Or.inl ⟨rfl, rfl, rfl, fun j h1 h2 => absurd h2 (by omega)⟩)
      exact this
    · have h26 : K q ≠ 26 := by
        rcases ht with ⟨-, rfl, -⟩ | ⟨ht, -⟩ <;> omega
      obtain ⟨isA, r0, r1, r2⟩ := pxr_all (by omega) (by omega) h26 hx
      rcases ht with ⟨rfl, rfl, rfl⟩ | ⟨h29, hqr, hc0, X3t, ⟨isT, t0, t1, t2⟩, hXt⟩
      · refine ⟨isA, r0, fun m3 kx d M => ?_, fun d w sc o' Qf hw kt h67 h70 ho2 hr hF hE => ?_⟩
        · have ck := chi_k hk1 hk2 hn1 hν kx
          refine r1 d M m3 (I (ν : Nat)) _ ck.1 ck.2 (fun z => ⟨rfl, by rw [z]; rfl⟩) (fun z M' => ?_)
          rw [z]
          exact isP_z7 (by omega) (KPX_16 hn hlo hν kx).1 (KPX_16 hn hlo hν kx).2.2 (Or.inl ⟨rfl, rfl⟩) M'
        · refine rowP_b (kc := 25) (v9 := 5) (vt := 0) hw h67 (by omega) hr (Or.inr ⟨hk, rfl, rfl, rfl⟩) (fun D r13 _ _ _ _ z => absurd z h25) (fun D r13 hD rD D6 fD _ => ?_)
          have D0 : D.1 67 = 0 := by rw [fD.1 67 (by decide)]; exact h67
          refine r2 d N D sc (o' + 1) 0 0 5 r13 (-1) Qf hD (WFP_Kt kt fD) D0 (by rw [fD.1 70 (by decide)]; exact h70) (by omega) rD (by omega) hF (fun hA M w5 q5 v5 k5 hw5 h5 nc => ?_) (fun z M w5 v5 k5 hz => ?_)
          · unfold fb_M_rowPattern_151
            rw [show decide ((0 : Int32) = 0) = true from rfl, br_tq, tkS_e (k := 29) (s := 9) hw5 h5 (by decide) rfl, if_neg (nc1_n nc).2.2.2.2, bnd_s, show decide ((0 : Int32) = 0) = true from rfl, br_tq]
            exact rowP_e (kc := 25) hw5 h5 (by decide) rfl (fun _ => hF hA) (fun z => absurd z (nc1_n nc).2.2.1)
          · obtain ⟨sc2, X, W, a1, a2, a3, a4, a5, a6, a7, a8, a9, a10⟩ := id hz
            have h5 : w5.1 67 = 0 := by rw [a7.1 67 (by decide)]; exact D0
            unfold fb_M_rowPattern_151
            rw [show decide ((0 : Int32) = 0) = true from rfl, br_tq, tkS_e (k := 29) (s := 9) a1 h5 (by decide) rfl, if_neg (by omega), bnd_s, show decide ((0 : Int32) = 0) = true from rfl, br_tq]
            refine rowP_e (kc := 25) a1 h5 (by decide) rfl (fun z => absurd hkr z) (fun _ _ w' hw' e1 e2 => hE z D w5 w' r13 fD D6 (PZW_mo hz (fun sc2 X W s1 s2 s3 b => ?_)) hw' e1 e2)
            have := ptn_lst (N := N) (K := K) (nm := nm) (own := false) (l := l) (q := p + 1) (q2 := r) (q3 := r) (p2 := r + 1) (X := X) (X3 := 0) (sc3 := sc2) hn hlo hν hl ⟨by omega, by omega, by omega, by omega⟩ g1 g2 ⟨by omega, by omega⟩ (m1 := m1) (n1 := n1) b hk1 hk2 hn1 (Or.inl ⟨rfl, rfl, rfl, fun j h1 h2 => absurd h2 (by omega)⟩)
            rw [show max X 0 = X by omega] at this
            exact this
      · refine ⟨isA && isT, fun z => by
          rw [Bool.and_eq_true] at z
          rw [hXt, r0 z.1, t0 z.2]; rfl, fun m3 kx d M => ?_, fun d w sc o' Qf hw kt h67 h70 ho2 hr hF hE => ?_⟩
        · have ck := chi_k hk1 hk2 hn1 hν kx
          refine r1 d M m3 (I (ν : Nat)) _ ck.1 ck.2 (fun z => ⟨rfl, by rw [z]; rfl⟩) (fun z M' => ?_)
          rw [z]
          have kx4 : KPX l4 n1 c0 m1 m3 := ⟨fun j j1 j2 => ⟨(ck.1 j (by omega) j2).1, fun _ => (ck.1 j (by omega) j2).2⟩, ck.2⟩
          exact isP_z7 (c0 := c0) (by omega) (KPX_16 hn hlo hν kx).1 (KPX_16 hn hlo hν kx).2.2 (Or.inr ⟨by omega, by omega, fun d => t1 d m3 kx4⟩) M'
        · refine rowP_b (kc := 25) (v9 := 5) (vt := 0) hw h67 (by omega) hr (Or.inr ⟨hk, rfl, rfl, rfl⟩) (fun D r13 _ _ _ _ z => absurd z h25) (fun D r13 hD rD D6 fD _ => ?_)
          have D0 : D.1 67 = 0 := by rw [fD.1 67 (by decide)]; exact h67
          refine r2 d N D sc (o' + 1) 0 0 5 r13 (-1) Qf hD (WFP_Kt kt fD) D0 (by rw [fD.1 70 (by decide)]; exact h70) (by omega) rD (by omega) (fun z => hF (by rw [z]; rfl)) (fun hA M w5 q5 v5 k5 hw5 h5 nc => ?_) (fun z M w5 v5 k5 hz => ?_)
          · unfold fb_M_rowPattern_151
            rw [show decide ((0 : Int32) = 0) = true from rfl, br_tq, tkS_e (k := 29) (s := 9) hw5 h5 (by decide) rfl, if_neg (nc1_n nc).2.2.2.2, bnd_s, show decide ((0 : Int32) = 0) = true from rfl, br_tq]
            exact rowP_e (kc := 25) hw5 h5 (by decide) rfl (fun _ => hF (by rw [hA]; rfl)) (fun z => absurd z (nc1_n nc).2.2.1)
          · obtain ⟨sc1, X1, W1, a1, a2, a3, a4, a5, a6, a7, a8, a9, a10⟩ := id hz
            have h5 : w5.1 67 = 0 := by rw [a7.1 67 (by decide)]; exact D0
            have Di : ∀ k, k ≠ 69 → (adv w5 q).1 k = w5.1 k := fun k hk => by unfold adv; exact upI_ne hk
            unfold fb_M_rowPattern_151
            rw [show decide ((0 : Int32) = 0) = true from rfl, br_tq, tkS_e (k := 29) (s := 9) a1 h5 (by decide) rfl, if_pos h29, bnd_s, show decide ((1 : Int32) = 0) = false from rfl, br_fq]
            refine pk_bnd (pk_mo (t2 d (adv w5 q) sc1 (o' + 1) (adv_p a1 (by omega)) (WFP_Kt (WFP_Kt (WFP_Kt kt fD) a7) ⟨fun k hk => Di k (fun z => hk (by rw [z]; decide)), fun _ _ => rfl⟩) (by rw [Di 67 (by decide)]; exact h5) (by rw [Di 70 (by decide), a7.1 70 (by decide), fD.1 70 (by decide)]; exact h70) (by omega) (RNs_e a2 (Di 65 (by decide)) (fun _ _ _ => rfl))) (fun w6 r6 y => ?_))
            have e186 : ∀ w7 : MS, w7.1 = w6.1 → (∀ k, k ≠ 37 → w7.2.2.1 k = w6.2.2.1 k) → PK Qf (fb_M_rowPattern_186 N (rc_M_rowPattern N d) (gg_M_rowPattern N (rc_M_rowPattern N d) M) w7 5 r13 k5) := fun w7 i7 j7 => by
              unfold fb_M_rowPattern_186
              refine pk_ck (fun _ => pk_ltq ?_)
              rcases y with ⟨y, hy⟩ | ⟨y, y1 | ⟨y0, q', y1, y2⟩⟩
              · obtain ⟨sc2, X2, W2, b1, b2, b3, b4, b5, b6, b7, b8, b9, b10⟩ := id hy
                have hw8 : WP (upA w7 38 (upd (w7.2.2.1 38) r13.toNatClampNeg (vp_nar .boolean 1))) K T r := WP_e b1 (by show w7.1 69 = _; rw [i7]; exact b1.2.1) b1.2.2 (by rw [upA_no (by decide), j7 6 (by decide)]) (by rw [upA_no (by decide), j7 7 (by decide)])
                have hz3 : PZW Nk K nm T (p + 1) r sc D w6 (fun sc2 X W => PTN N K nm m2 lo n2 ν false p (r + 1) sc sc2 X W) := by
                  refine PZW_two (Q2 := fun sc2 X W => PTN N K nm m2 lo n2 ν false p (r + 1) sc sc2 X W) (by omega) (by omega) (by omega) ⟨a1, a2, a3, a4, a5, a6, a7, a8, a9⟩ Di rfl hy (fun sc2 X2 W2 s1 s2 s3 b => ?_)
                  exact ptn_lst (N := N) (K := K) (nm := nm) (own := false) (l := l) (q := p + 1) (q2 := q) (q3 := r) (p2 := r + 1) (X := X1) (X3 := X2) (sc3 := sc2) hn hlo hν hl ⟨by omega, by omega, by omega, by omega⟩ g1 g2 ⟨by omega, by omega⟩ (m1 := m1) (n1 := n1) (PRW_w (fun j _ h => mrg_l h) a10) hk1 hk2 hn1 (Or.inr ⟨by omega, hc0.2.2, q + 1, l4, hc0.1, ⟨by omega, by omega⟩, fun j h1 h2 => by rw [show j = q by omega]; omega, PTN_w (fun j h _ => mrg_r (by omega)) b⟩)
                refine rowP_e (kc := 25) hw8 (by show w7.1 67 = 0; rw [i7, b7.1 67 (by decide), Di 67 (by decide)]; exact h5) (by decide) rfl (fun z => absurd hkr z) (fun _ _ w' hw' e1 e2 => hE (by rw [z, y]; rfl) D (upA w7 38 (upd (w7.2.2.1 38) r13.toNatClampNeg (vp_nar .boolean 1))) w' r13 fD D6 (PZW_fr hz3 i7 (fun k hk => ?_)) hw' e1 e2)
                rw [upA_no (by omega), j7 k (by omega)]
              · have f7 : FLW (upA w7 38 (upd (w7.2.2.1 38) r13.toNatClampNeg (vp_nar .boolean 1))) := by show w7.1 67 ≠ 0; rw [i7]; exact y1
                exact pk_mo (Kf_pk (yf_fb_M_rowPattern_194 (u0 := upA w7 38 (upd (w7.2.2.1 38) r13.toNatClampNeg (vp_nar .boolean 1))) f7 ((rcS N d).1 _) ((rcS N d).2 _) (gg_f (rcS N d).1 (rcS N d).2 M))) (fun w9 r9 z9 => hF (by rw [y, Bool.and_false]) w9 r9 z9)
              · have hw8 : WP (upA w7 38 (upd (w7.2.2.1 38) r13.toNatClampNeg (vp_nar .boolean 1))) K T q' := WP_e y1 (by show w7.1 69 = _; rw [i7]; exact y1.2.1) y1.2.2 (by rw [upA_no (by decide), j7 6 (by decide)]) (by rw [upA_no (by decide), j7 7 (by decide)])
                exact rowP_e (kc := 25) hw8 (by show w7.1 67 = 0; rw [i7]; exact y0) (by decide) rfl (fun _ => hF (by rw [y, Bool.and_false])) (fun z => absurd z (nc1_n y2).2.2.1)
            exact pk_br (fun _ => e186 w6 rfl (fun _ _ => rfl)) (fun _ => pk_ck (fun _ => pk_ltq (e186 _ rfl (fun k hk => upA_no hk))))
  obtain ⟨isA, x0, x1, x2⟩ := ex
  refine ⟨isA, x0, fun d m3 kx => isP_6 (by omega) (x1 m3 kx) (KPX_16 hn hlo hν kx).2.1 (Or.inr (KPX_16 hn hlo hν kx).1) d, fun d w sc o' hw kt h67 h70 ho2 hr => ?_⟩
  cases d with
  | zero => exact pk_none
  | succ d =>
    refine pt_rw (S := rc_M_rowPattern N d) hw h67 (I_25 h70 (by omega)) (Or.inr hk) hr (fun d2 => ?_) (fun _ _ => rfl)
    have hw2 : WP (upI w 70 (w.1 70 + 1)) K T p := WP_e hw (by rw [upI_ne (by decide)]; exact hw.2.1) hw.2.2 rfl rfl
    refine x2 d2 (upI w 70 (w.1 70 + 1)) sc o' _ hw2 (upI70_k kt) (by rw [upI_ne (by decide)]; exact h67) (by rw [upI_at, h70, i_suc]) ho2 (WFP_rn hr (upI_ne (by decide)) rfl) (fun hA w2 r z => ?_) (fun z D w5 w' r fD D6 hz hw' e1 e2 => ?_)
    · refine pk_mo (Q := fun w2 (_ : Int32) => FLW w2) (Kf_pk (yf_fb_M_patternAt_388 (u0 := w2) z ((rcS N d).1 w2) ((rcS N d).2 w2))) (fun w3 r3 z3 => ?_)
      exact Or.inr ⟨hA, Or.inl z3⟩
    · unfold fb_M_patternAt_388
      exact pk_ltq (pk_some (Or.inl ⟨z, fin w sc D w5 w' fD (by rw [D6, upI_ne (by decide)]) hz hw' e1 e2⟩))
end
end
