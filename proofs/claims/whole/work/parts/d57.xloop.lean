/-! expressions: units with signs between, both: all of them -/
set_option maxRecDepth 100000
section
variable {α β : Type} {m0 w0 m w m2 w2 m3 w3 v u w1 mS wS : MS} {K nm Nk W W2 : Nat → Nat} {N T D d o a a0 b b0 c cm cm0 cm2 cm3 q q0 r s lo lo0 mid hi i j f f2 n k kk p p2 σ tk x xa xb cc M M' m1 lv y t tok : Nat} {Q Q0 Q2 Q3 Q4 : Nat → Nat} {sc sc0 sc2 sc3 : SCT} {g lst l2 : Bool} {L L1 L2 S : List Nat} {idc fof cvr : Int → Int → Int} {z : Unit} {rt v1 v2 v3 v4 v5 r0 : Int32} {fc : MS → Unit → Option (MS × Unit)} {RR : MS → Unit → MS → Int32 → Prop} {A' : Option (MS × Unit)} {B' : Option (MS × Int32)} {F : MS → Int32 → Option (MS × Int32)} {E : Nat → Nat → Nat → Nat → Nat → Nat → Nat → Prop}
theorem rnk_46 : ∀ k, k < 46 → rnkc ((k : Nat) : Int) = rkK k := by decide
theorem rnk_e (c : CTZ m0 w0 K T nm Nk) (hp : p ≤ T) : rnkc (A m0 6 p) = rkK (K p) := by
  have h : A m0 6 p = ((K p : Nat) : Int) := by
    have k46 := c.2.1.1.k46 hp
    show (m0.2.2.1 6 p).toInt = _
    rw [c.1.2 p hp]
    exact I_ti (by omega) (by omega)
  rw [h, rnk_46 _ (c.2.1.1.k46 hp)]
theorem SF_hd2 (hb : BdE E) : ∀ {j n x c q : Nat} {S : List Nat} {g : Bool}, SFcK u E hi b r j n x c q S g → x ≤ hi + 1 ∧ c ≤ b ∧ q ≤ r
  | 0, n, x, c, q, S, g, h => by obtain ⟨-, h1, h2, h3, -⟩ := h; omega
  | j + 1, n, x, c, q, S, g, h => by
    obtain ⟨-, n2, x2, c2, q2, S2, g2, h1, -, h2⟩ := h
    have z := SF_hd2 hb h2
    rcases h1 with ⟨⟨m, e, rfl⟩, -⟩ | ⟨⟨rfl, h3, rfl, rfl⟩, -⟩
    · have := hb _ _ _ _ _ _ _ e
      unfold HDc at this
      omega
    · omega
theorem SF_end2 : ∀ {j n x c q : Nat} {S : List Nat}, SFcK u E hi b r j n x c q S true → x - 1 = hi ∨ 1 ≤ rnkc (A u 6 (x - 1))
  | 0, n, x, c, q, S, h => by obtain ⟨-, h1, -⟩ := h; omega
  | j + 1, n, x, c, q, S, h => by
    obtain ⟨-, n2, x2, c2, q2, S2, g2, h1, -, h2⟩ := h
    rcases h1 with ⟨-, -, h3⟩ | ⟨⟨rfl, -⟩, -, h3⟩
    · rcases h3 with ⟨z, -⟩ | ⟨-, -, z, -⟩
      · cases z
      · omega
    · rcases h3 with ⟨-, -, -, z, -⟩ | ⟨-, t, -, -, -, -, rfl⟩
      · rcases z with z | z <;> (rw [z]; right; decide)
      · exact SF_end2 h2
theorem xp_kd {q r hi lo n f : Nat} (h : XPcK u f o 1 n lo hi a b q r) : ∃ v : Nat, A u 16 n = ((v : Nat) : Int) ∧ v ≤ 18 := by
  cases f with
  | zero => exact h.elim
  | succ f =>
    obtain ⟨h1, h2, h3, h4⟩ := h
    have fin : ∀ x : Int, A u 16 n = x → 0 ≤ x → x ≤ 18 → ∃ v : Nat, A u 16 n = ((v : Nat) : Int) ∧ v ≤ 18 := fun x hx h0 h18 => ⟨x.toNat, by omega, by omega⟩
    rcases h4 with h | h | h | h | h | h | h | h | h | h | h | h | h | h | h | h | h
    · exact fin _ h.1.1 (by have := h.1.2.1; omega) (by have := h.1.2.1; omega)
    · exact fin _ h.1 (by omega) (by omega)
    · exact fin _ h.1 (by omega) (by omega)
    · exact fin _ h.1 (by omega) (by omega)
    · exact fin _ h.1 (by omega) (by omega)
    · exact fin _ h.1 (by omega) (by omega)
    · exact fin _ h.1 (by omega) (by omega)
    · exact fin _ h.1 (by omega) (by omega)
    · exact fin _ h.1 (by omega) (by omega)
    · exact fin _ h.1 (by omega) (by omega)
    · exact fin _ h.1 (by omega) (by omega)
    · exact fin _ h.1 (by omega) (by omega)
    · rcases h.1 with z | z
      · exact fin _ z (by omega) (by omega)
      · exact fin _ z (by omega) (by omega)
    · exact absurd h.2.1 (by decide)
    · exact absurd h.2.1 (by decide)
    · exact absurd h.2.1 (by decide)
    · exact absurd h.2.1 (by decide)
/-- none waits, or what waits binds less: nothing is worked off -/
theorem rdc_0 (h83 : w.1 83 = I (b0 : Nat)) (hb : b0 ≤ 24000) (h : PP RR A' (F w r0)) : PP RR A' (bnd (gg_M_reduce N M w (I (b0 : Nat)) (I (lv : Nat)) r0 1) F) := by
  cases M with
  | zero => exact pp_nr
  | succ M =>
    show PP RR A' (bnd (fb_M_reduce_6 N (gg_M_reduce N M) w (I (b0 : Nat)) (I (lv : Nat)) r0 1) F)
    unfold fb_M_reduce_6 fb_M_reduce_258
    rw [show decide ((1 : Int32) = 0) = false from rfl, br_f, h83, decI (by omega) (by omega) (by omega) (by omega), decide_eq_true (by omega), br_t, bnd_s]
    exact h
theorem rdc_1 {rk : Nat} (h83 : w.1 83 = I ((p + 1 : Nat) : Int)) (hp : p < 3000) (hb : b0 ≤ p) (h79 : w.2.2.1 79 p = I (rk : Nat)) (hlv : lv ≤ 6) (hc : rk < lv ∨ (rk = 4 ∧ lv = 4)) (h : PP RR A' (F w r0)) : PP RR A' (bnd (gg_M_reduce N M w (I (b0 : Nat)) (I (lv : Nat)) r0 1) F) := by
  cases M with
  | zero => exact pp_nr
  | succ M =>
    show PP RR A' (bnd (fb_M_reduce_6 N (gg_M_reduce N M) w (I (b0 : Nat)) (I (lv : Nat)) r0 1) F)
    unfold fb_M_reduce_6
    rw [show decide ((1 : Int32) = 0) = false from rfl, br_f, h83, decI (by omega) (by omega) (by omega) (by omega), decide_eq_false (by omega), br_f, I_sn, bnd_ck]
    refine r_ck (fun _ => ?_)
    rw [bnd_lt]
    refine r_lt ?_
    rw [tnI (n := p) rfl (by omega), h79]
    have e60 : PP RR A' (bnd (fb_M_reduce_60 N (gg_M_reduce N M) w (I (b0 : Nat)) (I (lv : Nat)) r0 (I (rk : Nat))) F) := by
      unfold fb_M_reduce_60 fb_M_reduce_61 fb_M_reduce_255
      rw [show decide ((0 : Int32) = 0) = true from rfl, br_t]
      cases M with
      | zero => exact pp_nr
      | succ M =>
        show PP RR A' (bnd (fb_M_reduce_6 N (gg_M_reduce N M) w (I (b0 : Nat)) (I (lv : Nat)) r0 0) F)
        unfold fb_M_reduce_6 fb_M_reduce_258
        rw [show decide ((0 : Int32) = 0) = true from rfl, br_t, bnd_s]
        exact h
    rw [decide_eq_false (fun z => by
      have := (I_lt (x := ((lv : Nat) : Int)) (y := ((rk : Nat) : Int)) (by omega) (by omega) (by omega) (by omega)).mp z
      omega), br_f]
    by_cases z : rk = lv
    · have h4 : rk = 4 ∧ lv = 4 := by omega
      obtain ⟨rfl, rfl⟩ := h4
      rw [show decide (I ((4 : Nat) : Int) = I ((4 : Nat) : Int)) = true from decide_eq_true rfl, br_t, show decide (I ((4 : Nat) : Int) = 3) = false from rfl, br_f, show decide (I ((4 : Nat) : Int) = 4) = true from rfl, br_t]
      exact e60
    · rw [decide_eq_false (fun y => z (by
        have := (I_eq (x := ((rk : Nat) : Int)) (y := ((lv : Nat) : Int)) (by omega) (by omega) (by omega) (by omega)).mp y
        omega)), br_f]
      exact e60
/-- what waits last -/
theorem SGA_top (h : SGA m0 w0 K T nm Nk fof cvr lst g lo0 a0 cm0 q0 Q0 sc0 mS wS (t :: S) y a cm q Q sc m w v2 v3 v4 v5) : ∃ p, Q 83 = p + 1 ∧ Q0 83 ≤ p ∧ p < 3000 ∧ w.2.2.1 79 p = I (rkK (K t) : Nat) ∧ t ≤ T ∧ (3 ≤ rkK (K t) ∨ K t = 6 ∨ K t = 16) ∧ ∀ t', t' ∈ S → rkK (K t') < rkK (K t) ∨ (rkK (K t') = 4 ∧ rkK (K t) = 4) := by
  obtain ⟨hs, a1, cm1, q1, Q1, sc1, m1, w1, w2', v2', v3', v4', v5', h2, hx⟩ := h
  have l1 := SGA_len h2
  have tT : t ≤ T := (SGA_now h2).2.1.1.2.1.2
  rcases hx with ⟨g3, ⟨x1, x2, x3, x4, x5⟩, ht, -⟩ | ⟨g3, ⟨x1, x2, x3, x4, x5⟩, -, -, ht, -⟩
  · have e83 : Q 83 = Q1 83 + 1 := by have := ht.2.2.2.2.2.2.1.2.2.2.2; rw [qst_at] at this; exact this
    have kp := ht.2.2.2.2.2.2.1.1.2.1
    have q83 : qst Q1 83 (Q1 83 + 1) 83 = Q1 83 + 1 := qst_at
    have l2 := ht.1
    exact ⟨Q1 83, e83, by omega, x5, (kp 79 (Q1 83) (by decide) (by show Q1 83 < qst Q1 83 (Q1 83 + 1) 83; omega)).trans x3, tT, Or.inl g3, hs⟩
  · have e83 : Q 83 = Q1 83 + 1 := by have := ht.2.2.2.2.2.2.1.2.2.2.2; rw [qst_at] at this; exact this
    have kp := ht.2.2.2.2.2.2.1.1.2.1
    have q83 : qst (qst Q1 32 (Q1 32 + 1)) 83 (Q1 83 + 1) 83 = Q1 83 + 1 := qst_at
    have l2 := ht.1
    exact ⟨Q1 83, e83, by omega, x5, (kp 79 (Q1 83) (by decide) (by show Q1 83 < qst (qst Q1 32 (Q1 32 + 1)) 83 (Q1 83 + 1) 83; omega)).trans x3, tT, Or.inr g3, hs⟩
/-- a sign that is put on what waits -/
theorem clo_ps {SS : SG_M_behind} (c : CTZ m0 w0 K T nm Nk) (h : SGA m0 w0 K T nm Nk fof cvr lst g lo0 a0 cm0 q0 Q0 sc0 mS wS S y a cm q Q sc m w v2 v3 v4 v5) (h1 : 1 ≤ rkK (K y)) (hc : CLOk m0 y S) (hh : PP RR A' (kb_M_worked_189 N SS (kg_M_worked N SS M) w (I (Q0 83 : Nat)) r0 1 (I (rkK (K y) : Nat)))) : PP RR A' (bnd (gg_M_reduce N M' w (I (Q0 83 : Nat)) (I (rkK (K y) : Nat)) r0 1) (wkG N SS M (I (Q0 83 : Nat)) (rkK (K y)))) := by
  have hnow := (SGA_now h).2.1
  have h83 := hnow.2 83 (by decide)
  have hl := SGA_len h
  have hyT : y ≤ T := hnow.1.2.1.2
  have r6 := rk6 (c.2.1.1.k46 hyT)
  have nz : ¬ rkK (K y) = 0 := by omega
  cases S with
  | nil =>
    have e83 : w.1 83 = I (Q0 83 : Nat) := by have := h83.1; rw [show Q 83 = Q0 83 from hl.1] at this; exact this
    refine rdc_0 e83 (by omega) ?_
    unfold wkG
    rw [if_neg nz, e83]
    refine r_br (fun _ => ?_) (fun _ => hh)
    rw [decI (by omega) (by omega) (by omega) (by omega), decide_eq_true (by omega), br_t]
    exact hh
  | cons t S =>
    obtain ⟨p, p1, p2, p3, p4, p5, p6, p7⟩ := SGA_top h
    have cl := hc t S rfl
    rw [rnk_e c p5, rnk_e c hyT] at cl
    have e83 : w.1 83 = I ((p + 1 : Nat) : Int) := by have := h83.1; rw [p1] at this; exact this
    have k46 := rk6 (c.2.1.1.k46 p5)
    refine rdc_1 e83 p3 p2 p4 r6 cl ?_
    unfold wkG
    rw [if_neg nz, e83, I_sn]
    refine r_br (fun z3 => ?_) (fun _ => hh)
    have z3 : rkK (K y) = 3 := by
      have := (I_eq (x := ((rkK (K y) : Nat) : Int)) (y := 3) (by omega) (by omega) (by decide) (by decide)).mp (of_decide_eq_true z3)
      omega
    refine r_br (fun _ => hh) (fun _ => r_ck (fun _ => ?_))
    rw [i_nt2 (p := p) (by omega), p4, decide_eq_false (fun z => by
      have := (I_eq (x := ((rkK (K t) : Nat) : Int)) (y := 3) (by omega) (by omega) (by decide) (by decide)).mp z
      omega), br_f]
    exact hh
theorem ord_c (c : CTZ m0 w0 K T nm Nk) (h : SGA m0 w0 K T nm Nk fof cvr lst g lo0 a0 cm0 q0 Q0 sc0 mS wS S y a cm q Q sc m w v2 v3 v4 v5) (hc : CLOk m0 y S) : ∀ t', t' ∈ S → rkK (K t') < rkK (K y) ∨ (rkK (K t') = 4 ∧ rkK (K y) = 4) := by
  have hyT : y ≤ T := (SGA_now h).2.1.1.2.1.2
  cases S with
  | nil => intro t' ht'; cases ht'
  | cons t S =>
    obtain ⟨p, p1, p2, p3, p4, p5, p6, p7⟩ := SGA_top h
    have cl := hc t S rfl
    rw [rnk_e c p5, rnk_e c hyT] at cl
    intro t' ht'
    rcases List.mem_cons.mp ht' with rfl | z
    · exact cl
    · have := p7 t' z
      omega
/-- to the next node, there -/
theorem s198 {SF : SF_Cm_fun} {G : MS → Int32 → Int32 → Int32 → Int32 → Int32 → Option (MS × Unit)} (fr : FRC m0 m) (hn : n ≤ 8015) {n2 : Nat} (h21 : A m0 21 n = ((n2 : Nat) : Int)) (h : PP RR (bnd (G m v2 v3 v4 v5 (I (n2 : Nat))) fc) B') : PP RR (bnd (jb_Cm_signs_198 N SF G m v2 v3 v4 v5 (I (n : Nat))) fc) B' := by
  unfold jb_Cm_signs_198
  rw [bnd_ck, i_nt2 (show n ≤ 100000 by omega), tre fr (by decide) h21]
  exact l_ck (fun _ => h)
/-- units and signs, to their end -/
theorem sgn_x (c : CTZ m0 w0 K T nm Nk) (IU : HXU N m0 w0 K T nm Nk fof cvr f) (hxb : xb ≤ 8015) (hr4 : r ≤ 400) (hcl : K hi ≠ 20 ∧ hi ≤ T ∧ rkK (K hi) = 0) (htot : tot sc0 + (hi - lo0) ≤ 4000 ∧ sc0.length ≤ o + 1)
    (hend : ∀ m w a cm Q sc rn, a0 < a → XTR m0 w0 K T nm Nk fof cvr lst g [] lo0 hi a0 a cm0 cm q0 r Q0 Q sc0 sc mS wS m w → (Q0 32 ≤ rn ∧ rn < Q 32) → A w 28 rn = -1 → (A w 23 rn ≠ 12 ∧ A w 23 rn ≠ 13) → PP RR (fc m ()) (some (w, I (rn : Nat)))) :
    ∀ j, (∀ (M M' k n x cc q : Nat) (S : List Nat) (a cm : Nat) (Q : Nat → Nat) (sc : SCT) (m w : MS) (v2 v3 v4 v5 : Int32) (rn : Nat), SFcK m0 (XPcK m0 f o 1) hi xb r j n x cc q S true → 1 ≤ x → SGA m0 w0 K T nm Nk fof cvr lst g lo0 a0 cm0 q0 Q0 sc0 mS wS S (x - 1) a cm q Q sc m w v2 v3 v4 v5 → (Q0 32 ≤ rn ∧ rn < Q 32) → a0 < a → ((A w 28 rn = -1 ∧ (A w 23 rn ≠ 12 ∧ A w 23 rn ≠ 13)) ∨ 1 ≤ j) → PP RR (bnd (jg_Cm_signs N (jrc_Cm_fun N D) k m v2 v3 v4 v5 (I (n : Nat))) fc) (bnd (gg_M_reduce N M' w (I (Q0 83 : Nat)) (I (rkK (K (x - 1)) : Nat)) (I (rn : Nat)) 1) (wkG N (krc_M_behind N d) M (I (Q0 83 : Nat)) (rkK (K (x - 1)))))) ∧
      (∀ (M k n x cc q : Nat) (S : List Nat) (a cm : Nat) (Q : Nat → Nat) (sc : SCT) (m w : MS) (v2 v3 v4 v5 : Int32), SFcK m0 (XPcK m0 f o 1) hi xb r j n x cc q S false → SGA m0 w0 K T nm Nk fof cvr lst g lo0 a0 cm0 q0 Q0 sc0 mS wS S x a cm q Q sc m w v2 v3 v4 v5 → (S = [] → 2 ≤ j) → PP RR (bnd (jg_Cm_signs N (jrc_Cm_fun N D) k m v2 v3 v4 v5 (I (n : Nat))) fc) ((kg_M_worked N (krc_M_behind N d) M).2 w (I (Q0 83 : Nat)))) := by
  have t4 := c.2.1.1.1
  have hb : BdE (XPcK m0 f o 1) := XP_bdK f o 1
  intro j
  induction j with
  | zero =>
    refine ⟨fun M M' k n x cc q S a cm Q sc m w v2 v3 v4 v5 rn h hx0 hS hrn ha0 hok => ?_, fun M k n x cc q S a cm Q sc m w v2 v3 v4 v5 h hS h2 => ?_⟩
    · obtain ⟨rfl, rfl, rfl, rfl, rfl, -⟩ := h
      rcases hok with hok | hok
      · rw [show hi + 1 - 1 = hi from rfl] at hS ⊢
        have hR := hS.2.2.1.1
        have h83 := hR.2 83 (by decide)
        have e83 : Q 83 = Q0 83 := (SGA_len hS).1
        rw [e83] at h83
        rw [hcl.2.2]
        refine rdc_0 h83.1 h83.2 ?_
        unfold wkG
        rw [if_pos rfl]
        cases k with
        | zero => exact pp_nl
        | succ k =>
          show PP RR (bnd (jb_Cm_signs_13 N (jrc_Cm_fun N D) (jg_Cm_signs N (jrc_Cm_fun N D) k) m v2 v3 v4 v5 (I ((0 : Nat) : Int))) fc) _
          unfold jb_Cm_signs_13
          rw [show decide (I ((0 : Nat) : Int) = 0) = true from rfl, br_t, bnd_s]
          exact hend m w a cm Q sc rn ha0 hS hrn hok.1 hok.2
      · omega
    · obtain ⟨-, -, -, -, -, z⟩ := h
      cases z
  | succ j ih =>
    obtain ⟨ihA, ihB⟩ := ih
    -- a unit, both
    have unit : ∀ (M k n x cc q : Nat) (S : List Nat) (a cm : Nat) (Q : Nat → Nat) (sc : SCT) (m w : MS) (v2 v3 v4 v5 : Int32) (n2 mm c2 q2 : Nat), XPcK m0 f o 1 n x mm cc c2 q q2 → A m0 21 n = ((n2 : Nat) : Int) → SFcK m0 (XPcK m0 f o 1) hi xb r j n2 (mm + 1) c2 q2 S true → SGA m0 w0 K T nm Nk fof cvr lst g lo0 a0 cm0 q0 Q0 sc0 mS wS S x a cm q Q sc m w v2 v3 v4 v5 → 1 ≤ j → PP RR (bnd (jg_Cm_signs N (jrc_Cm_fun N D) k m v2 v3 v4 v5 (I (n : Nat))) fc) ((kg_M_worked N (krc_M_behind N d) M).2 w (I (Q0 83 : Nat))) := fun M k n x cc q S a cm Q sc m w v2 v3 v4 v5 n2 mm c2 q2 e h21 hs hS hj => by
      have hd := xp_hd e
      have sh := SF_hd2 hb hs
      have hnow := SGA_now hS
      have hlen := SGA_len hS
      have hmm : mm ≤ hi := by omega
      have k20 : K mm ≠ 20 := by
        rcases SF_end2 hs with z | z
        · have z : mm = hi := z
          rw [z]; exact hcl.1
        · have z : 1 ≤ rnkc (A m0 6 mm) := z
          rw [rnk_e c (by omega)] at z
          intro y
          rw [y] at z
          revert z; decide
      obtain ⟨v, hv, hv18⟩ := xp_kd e
      have fr := XCS_fr hnow.1
      have hn : n ≤ 8015 := by omega
      cases k with
      | zero => exact pp_nl
      | succ k =>
        show PP RR (bnd (jb_Cm_signs_13 N (jrc_Cm_fun N D) (jg_Cm_signs N (jrc_Cm_fun N D) k) m v2 v3 v4 v5 (I (n : Nat))) fc) _
        have dv : ∀ x : Nat, 19 ≤ x → x ≤ 30 → decide (I ((v : Nat) : Int) = I ((x : Nat) : Int)) = false := fun x h1 h2 => decide_eq_false (fun z => by
          have := (I_eq (x := ((v : Nat) : Int)) (y := ((x : Nat) : Int)) (by omega) (by omega) (by omega) (by omega)).mp z
          omega)
        unfold jb_Cm_signs_13
        rw [decide_eq_false (fun z => by
          have := (I_eq (x := ((n : Nat) : Int)) (y := 0) (by omega) (by omega) (by decide) (by decide)).mp z
          omega), br_f, bnd_ck]
        refine l_ck (fun _ => ?_)
        rw [bnd_ck]
        refine l_ck (fun _ => ?_)
        rw [i_nt2 (show n ≤ 100000 by omega), tre fr (by decide) hv, show (24 : Int32) = I ((24 : Nat) : Int) from rfl, dv 24 (by omega) (by omega), br_f]
        unfold jb_Cm_signs_82
        rw [show (24 : Int32) = I ((24 : Nat) : Int) from rfl, dv 24 (by omega) (by omega), br_f, show (23 : Int32) = I ((23 : Nat) : Int) from rfl, dv 23 (by omega) (by omega), br_f, bnd_as2]
        refine IU D d M o n x mm cc c2 q q2 (Q0 83) m w a cm Q sc g false RR _ e (by omega) (by omega) ⟨k20, by omega⟩ hnow.1 hnow.2.1 hnow.2.2 (by omega) (by omega) (fun M2 M3 m2 w2 rt hz => ?_)
        obtain ⟨b2, cm2, Q2, sc2, rn, f2, L, rfl, hrn, z3, z4, -⟩ := hz
        refine s198 (XCS_fr z3.2.1) hn h21 ?_
        exact ihA M2 M3 k n2 (mm + 1) c2 q2 S b2 cm2 Q2 sc2 m2 w2 v2 v3 v4 v5 rn hs (by omega) (SGA_ext hS (XTR_nl z3)) (by omega) (by omega) (Or.inr hj)
    refine ⟨fun M M' k n x cc q S a cm Q sc m w v2 v3 v4 v5 rn h hx0 hS hrn ha0 hok => ?_, fun M k n x cc q S a cm Q sc m w v2 v3 v4 v5 h hS h2 => ?_⟩
    · obtain ⟨y, rfl⟩ : ∃ y, x = y + 1 := ⟨x - 1, by omega⟩
      rw [show y + 1 - 1 = y from rfl] at hS ⊢
      obtain ⟨hn1, n2, x2, c2, q2, S2, g2, h1, h21, hs⟩ := h
      unfold STPcK at h1
      rw [show y + 1 - 1 = y from rfl] at h1
      have hnow := SGA_now hS
      have hlen := SGA_len hS
      have hyT : y ≤ T := hnow.2.1.1.2.1.2
      rcases h1 with ⟨⟨mm, e, rfl⟩, rfl, h3⟩ | ⟨⟨hx2, hc1, hc2, hq2⟩, -, h3⟩
      · rcases h3 with ⟨z, -⟩ | ⟨-, rfl, hr3, hcl3⟩
        · cases z
        · rw [rnk_e c hyT] at hr3
          have hj : 1 ≤ j := by
            rcases Nat.eq_zero_or_pos j with rfl | z
            · obtain ⟨-, -, -, -, z, -⟩ := hs
              cases z
            · exact z
          refine clo_ps c hS (by omega) hcl3 (ps_k c hnow.2.1 (by omega) (fun M2 w2 hp => ?_))
          rcases hp with ⟨-, hp⟩ | ⟨z, -⟩
          · refine unit M2 k n (y + 1) cc q (y :: S) a cm (qst Q 83 (Q 83 + 1)) sc m w2 v2 v3 v4 v5 n2 mm c2 q2 e h21 hs ?_ hj
            exact ⟨ord_c c hS hcl3, a, cm, q, Q, sc, m, w, w2, v2, v3, v4, v5, hS, Or.inl ⟨hr3, hp, XTR_rf hnow.1 hp.1 (by rw [qst_no (by decide)]; exact hnow.2.2), rfl, rfl, rfl, rfl⟩⟩
          · exfalso
            rcases z with z | z <;> (rw [z] at hr3; exact absurd hr3 (by decide))
      · rw [hx2, hc2, hq2] at hs
        have hle := SF_hd2 hb hs
        have hn : n ≤ 8015 := by omega
        have fr := XCS_fr hnow.1
        cases k with
        | zero => exact pp_nl
        | succ k =>
        show PP RR (bnd (jb_Cm_signs_13 N (jrc_Cm_fun N D) (jg_Cm_signs N (jrc_Cm_fun N D) k) m v2 v3 v4 v5 (I (n : Nat))) fc) _
        unfold jb_Cm_signs_13
        rw [decide_eq_false (fun z => by
          have := (I_eq (x := ((n : Nat) : Int)) (y := 0) (by omega) (by omega) (by decide) (by decide)).mp z
          omega), br_f, bnd_ck]
        refine l_ck (fun _ => ?_)
        rw [bnd_ck]
        refine l_ck (fun _ => ?_)
        rw [i_nt2 (show n ≤ 100000 by omega)]
        rcases h3 with ⟨h16, h17, h18, hk, hcl3, rfl, rfl⟩ | ⟨h16, t, rfl, h17, h18, hpop, rfl⟩
        · -- a hinge
          have hk' : K y = 6 ∨ K y = 16 := hk.imp (fun z => kA c hyT z) (fun z => kA c hyT z)
          have hr1 : 1 ≤ rkK (K y) := by rcases hk' with z | z <;> (rw [z]; decide)
          have two : ∀ x13 : Int32, x13 = (if K y = 6 then 13 else 14) → PP RR (bnd (jm_Co_put N m x13) (fun u39 r39 => bnd (bnd (jm_Co_hook N u39 0) (fun u42 r42 => if K y = 6 then jb_Cm_signs_198 N (jrc_Cm_fun N D) (jg_Cm_signs N (jrc_Cm_fun N D) k) u42 r42 (u42.1 706) v4 v5 (I (n : Nat)) else jb_Cm_signs_198 N (jrc_Cm_fun N D) (jg_Cm_signs N (jrc_Cm_fun N D) k) u42 v2 v3 r42 (u42.1 706) (I (n : Nat)))) fc)) (bnd (gg_M_reduce N M' w (I (Q0 83 : Nat)) (I (rkK (K y) : Nat)) (I (rn : Nat)) 1) (wkG N (krc_M_behind N d) M (I (Q0 83 : Nat)) (rkK (K y)))) := fun x13 hx13 => by
            have hC := hnow.1
            refine l_put hC.1.2.2.1.1 hC.1.2.2.1.2.2 (fun ha => ?_)
            have c1 := XCS_put (x := x13) hC ha
            unfold jm_Co_hook jb_Co_hook_0
            rw [bnd_as2, bnd_as2]
            refine l_put c1.1.2.2.1.1 c1.1.2.2.1.2.2 (fun ha1 => ?_)
            have c2 := XCS_put (x := 0) c1 ha1
            rw [bnd_s]
            have e441 : (ptc (ptc m a x13) (a + 1) 0).1 441 = I ((a + 2 : Nat) : Int) := c2.1.2.2.1.1
            have e706 : (ptc (ptc m a x13) (a + 1) 0).1 706 = I (tot sc : Nat) := c2.1.2.1.2.2.1
            rw [e441, e706, show ((a + 2 : Nat) : Int) = ((a + 1 + 1 : Nat) : Int) from rfl, I_sn]
            have em : ptc (ptc m a x13) (a + 1) 0 = ptcs m a [if K y = 6 then 13 else 14, 0] := by rw [hx13]; rfl
            rw [em] at c2 ⊢
            refine clo_ps c hS hr1 hcl3 (ps_k c hnow.2.1 hr1 (fun M2 w2 hp => ?_))
            rcases hp with ⟨z, -⟩ | ⟨-, hp, hg⟩
            · exfalso
              rcases hk' with y | y <;> (rw [y] at z; exact absurd z (by decide))
            have hx2 := XTR_rf (lst := lst) (K := K) (Nk := Nk) (fof := fof) (cvr := cvr) (q := q) c2 hp.1 (by rw [qst_no (by decide), qst_no (by decide)]; exact hnow.2.2)
            by_cases z : K y = 6
            · rw [if_pos z]
              refine s198 (XCS_fr c2) hn h21 (ihB M2 k n2 (y + 1) _ _ (y :: S) (a + 2) cm (qst (qst Q 32 (Q 32 + 1)) 83 (Q 83 + 1)) sc _ w2 _ _ v4 v5 hs ?_ (fun z => by cases z))
              exact ⟨ord_c c hS hcl3, a, cm, q, Q, sc, m, w, w2, v2, v3, v4, v5, hS, Or.inr ⟨hk', hp, hg, by omega, hx2, Or.inl ⟨z, rfl, rfl, rfl, rfl⟩⟩⟩
            · rw [if_neg z]
              refine s198 (XCS_fr c2) hn h21 (ihB M2 k n2 (y + 1) _ _ (y :: S) (a + 2) cm (qst (qst Q 32 (Q 32 + 1)) 83 (Q 83 + 1)) sc _ w2 v2 v3 _ _ hs ?_ (fun z => by cases z))
              exact ⟨ord_c c hS hcl3, a, cm, q, Q, sc, m, w, w2, v2, v3, v4, v5, hS, Or.inr ⟨hk', hp, hg, by omega, hx2, Or.inr ⟨hk'.resolve_left z, rfl, rfl, rfl, rfl⟩⟩⟩
          rw [tre fr (by decide) h16, show decide (I 24 = (24 : Int32)) = true from rfl, br_t]
          rcases hk with z | z
          · have zk : K y = 6 := kA c hyT z
            have h18' : m.2.2.1 18 n = I 6 := tre fr (by decide) (h18.trans z)
            rw [h18', show decide (I 6 = (6 : Int32)) = true from rfl, br_t, bnd_as2]
            have := two 13 (by rw [if_pos zk])
            simp only [if_pos zk] at this
            exact this
          · have zk : K y = 16 := kA c hyT z
            have h18' : m.2.2.1 18 n = I 16 := tre fr (by decide) (h18.trans z)
            rw [h18', show decide (I 16 = (6 : Int32)) = false from rfl, br_f]
            unfold jb_Cm_signs_82
            rw [show decide (I 24 = (24 : Int32)) = true from rfl, br_t, bnd_as2]
            have nk : ¬ K y = 6 := by omega
            have := two 14 (by rw [if_neg nk])
            simp only [if_neg nk] at this
            exact this
        · -- one is worked off
          obtain ⟨p, p1, p2, p3, p4, p5, p6, p7⟩ := SGA_top hS
          unfold POPk at hpop
          rw [rnk_e c p5, rnk_e c hyT] at hpop
          have k46 := c.2.1.1.k46 p5
          have r6 := rk6 (c.2.1.1.k46 hyT)
          have h18' : m.2.2.1 18 n = I (K t : Nat) := by
            have e : A m0 6 t = ((K t : Nat) : Int) := by
              show (m0.2.2.1 6 t).toInt = _
              rw [c.1.2 t p5]
              exact I_ti (by omega) (by omega)
            exact tre fr (by decide) (h18.trans e)
          rw [tre fr (by decide) h16, show decide (I 23 = (24 : Int32)) = false from rfl, br_f]
          unfold jb_Cm_signs_82
          rw [show decide (I 23 = (24 : Int32)) = false from rfl, br_f, show decide (I 23 = (23 : Int32)) = true from rfl, br_t, h18']
          have hh : ∀ M' m3 v rn a3 cm3 Q3 sc3, a ≤ a3 → SGA m0 w0 K T nm Nk fof cvr lst g lo0 a0 cm0 q0 Q0 sc0 mS wS S2 y a3 cm3 q Q3 sc3 m3 v v2 v3 v4 v5 → (Q0 32 ≤ rn ∧ rn < Q3 32) → A v 28 rn = -1 → (A v 23 rn ≠ 12 ∧ A v 23 rn ≠ 13) → PP RR (bnd (jb_Cm_signs_198 N (jrc_Cm_fun N D) (jg_Cm_signs N (jrc_Cm_fun N D) k) m3 v2 v3 v4 v5 (I (n : Nat))) fc) (bnd (gg_M_reduce N M' v (I (Q0 83 : Nat)) (I (rkK (K y) : Nat)) (I (rn : Nat)) 1) (wkG N (krc_M_behind N d) M (I (Q0 83 : Nat)) (rkK (K y)))) := fun M' m3 v rn a3 cm3 Q3 sc3 ha3 hS3 hrn3 h28 h23 => by
            refine s198 (XCS_fr (SGA_now hS3).1) hn h21 ?_
            have := ihA M M' k n2 (y + 1) n _ S2 a3 cm3 Q3 sc3 m3 v v2 v3 v4 v5 rn hs (by omega) hS3 hrn3 (by omega) (Or.inl ⟨h28, h23⟩)
            exact this
          have nk4 : K t < 46 := k46
          by_cases z6 : K t = 6
          · rw [z6, show decide (I ((6 : Nat) : Int) = (6 : Int32)) = true from rfl, br_t, bnd_as2]
            have := pop_h (N := N) (M := M') (r0 := I (rn : Nat)) (F := wkG N (krc_M_behind N d) M (I (Q0 83 : Nat)) (rkK (K y))) (fc := fun u _ => bnd (jb_Cm_signs_198 N (jrc_Cm_fun N D) (jg_Cm_signs N (jrc_Cm_fun N D) k) u v2 v3 v4 v5 (I (n : Nat))) fc) c hS (Or.inl z6) (by omega) hh
            rw [if_pos z6, if_pos z6] at this
            simp only [bnd_as2]
            exact this
          by_cases z16 : K t = 16
          · rw [z16, show decide (I ((16 : Nat) : Int) = (6 : Int32)) = false from rfl, br_f, show decide (I ((16 : Nat) : Int) = (16 : Int32)) = true from rfl, br_t, bnd_as2]
            have := pop_h (N := N) (M := M') (r0 := I (rn : Nat)) (F := wkG N (krc_M_behind N d) M (I (Q0 83 : Nat)) (rkK (K y))) (fc := fun u _ => bnd (jb_Cm_signs_198 N (jrc_Cm_fun N D) (jg_Cm_signs N (jrc_Cm_fun N D) k) u v2 v3 v4 v5 (I (n : Nat))) fc) c hS (Or.inr z16) (by omega) hh
            rw [if_neg z6, if_neg z6] at this
            simp only [bnd_as2]
            exact this
          have r3 : 3 ≤ rkK (K t) := by omega
          rw [decide_eq_false (fun z => z6 (by
            have := (I_eq (x := ((K t : Nat) : Int)) (y := 6) (by omega) (by omega) (by decide) (by decide)).mp z
            omega)), br_f, decide_eq_false (fun z => z16 (by
            have := (I_eq (x := ((K t : Nat) : Int)) (y := 16) (by omega) (by omega) (by decide) (by decide)).mp z
            omega)), br_f, bnd_ck]
          refine l_ck (fun _ => ?_)
          rw [i_nt2 (show n ≤ 100000 by omega), tre fr (by decide) h17, bnd_as2]
          exact pop_t c hS r3 r6 (by omega) (fun M' m3 v Q3 => hh M' m3 v (Q 32) (a + 2) cm Q3 sc (by omega))
    · obtain ⟨hn1, n2, x2, c2, q2, S2, g2, h1, h21, hs⟩ := h
      rcases h1 with ⟨⟨mm, e, rfl⟩, rfl, h3⟩ | ⟨-, z, -⟩
      · rcases h3 with ⟨-, rfl⟩ | ⟨z, -⟩
        · refine unit M k n x cc q _ a cm Q sc m w v2 v3 v4 v5 n2 mm c2 q2 e h21 hs hS ?_
          rcases Nat.eq_zero_or_pos j with rfl | z
          · obtain ⟨-, -, -, -, z, -⟩ := hs
            have := h2 z
            omega
          · exact z
        · cases z
      · cases z
end
