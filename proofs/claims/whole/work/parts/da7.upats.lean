/-! what compiling a PATTERN does to names, there alone: all of them -/
set_option maxRecDepth 100000
def HUP (N : Nat) (m0 : MS) (T : Nat) (nm : Nat → Nat) (f : Nat) : Prop := ∀ (D n lo hi xa xb q r : Nat) (m : MS) (a cm : Nat) (e : List Nat × List Nat × Nat) (t : SCT) (own : Bool), PAcK m0 f n lo hi xa xb q r → xb ≤ 8015 → hi ≤ T → PCS m0 nm m a cm (e :: t) own → SOK (e :: t) → tot (e :: t) + (hi - lo) ≤ 4000 → PK (fun v _ => UPP m0 nm t own (hi - lo) m a cm e v) ((jrc_Cm_listPattern N D).2 m (I (n : Nat)))
section
variable {α β : Type} {m0 w0 m w m2 w2 m3 w3 m4 v u w1 mS wS : MS} {K nm Nk W W2 : Nat → Nat} {N T D d o a a0 a2 b b0 c cm cm0 cm2 cm3 cm4 q q0 r s lo lo0 mid hi i j f f2 n n1 k k2 kk KK p p2 σ tk x xa xb xc mm M m1 lv y cl l2 : Nat} {sc sc0 sc2 sc3 t t2 : SCT} {e e2 e3 e4 : List Nat × List Nat × Nat} {g own lst : Bool} {idc fof cvr : Int → Int → Int} {fc : MS → Unit → Option (MS × α)} {RU : MS → α → MS → β → Prop} {B : Option (MS × β)} {S : SF_Cm_listPattern} {xx : Int32}
theorem up_put (h : UPQ m0 nm t own k m a cm e m2 b cm2 e2) (hh : b < 23990 → UPQ m0 nm t own k m a cm e (ptc m2 b xx) (b + 1) cm2 e2 → PP RU (fc (ptc m2 b xx) ()) B) : PP RU (bnd (jm_Co_put N m2 xx) fc) B := by
  obtain ⟨a1, a2, a3, a4, a5, a6⟩ := h
  exact l_put a1.2.2.1.1 a1.2.2.1.2.2 (fun ha => hh ha ⟨PCS_put a1 ha, a2, a3, a4, ⟨by omega, a5.2⟩, CFP_put a6 a5.1⟩)
/-- a leaf -/
theorem u_plf (c : CTZ m0 w0 K T nm Nk) (cv : CTV m0 w0 K T) (hC : PCS m0 nm m a cm (e :: t) own) (ok : SOK (e :: t)) (hn : n ≤ 8015) (hlf : LFc m0 n lo) (hl : lo < T) (h4 : tot (e :: t) + 1 ≤ 4000) : PK (fun v _ => UPP m0 nm t own 1 m a cm e v) (jm_Cm_pattern N S m (I (n : Nat))) := by
  obtain ⟨l16, k1, k4, l17, l18⟩ := lf_7 c hlf (by omega)
  have fr := hC.1
  have t4 := c.2.1.1.1
  by_cases z3 : K lo = 3
  · obtain ⟨c7, -, cx, cu⟩ := c.2.2.2 lo hl z3
    have e18 : m.2.2.1 18 n = I (nm (Nk lo) : Nat) := by
      rw [tre fr (by decide) l18]
      show I (m0.2.2.1 7 lo).toInt = _
      rw [← I_of, c7]
    refine pu_pk (w := m0) ?_
    unfold jm_Cm_pattern jb_Cm_pattern_0
    refine l_ck (fun _ => ?_)
    rw [i_nt2 (show n ≤ 100000 by omega), tre fr (by decide) (v := 3) (l16.trans (by rw [z3]; rfl))]
    rw [decide_eq_false (show ¬ (I 3 = (1 : Int32)) by decide), br_f, decide_eq_false (show ¬ (I 3 = (2 : Int32)) by decide), br_f, decide_eq_true (show (I 3 = (3 : Int32)) by decide), br_t]
    refine l_ck (fun _ => l_ck (fun _ => ?_))
    rw [e18, tre fr (by decide) l17]
    exact fun v z w r e1 e2 => u_pnm c hC ok cx (by omega) (by omega) (fun v => rfl) v z e1
  by_cases z4 : K lo = 4
  · obtain ⟨fr0, s0, b, l, s1, s2, s3, s4, s5, s6, s7, s8, s9⟩ := (cv lo hl).2.2 z4
    have e18 : A m0 18 n = ((fr0 : Nat) : Int) := by
      rw [l18]
      show (m0.2.2.1 7 lo).toInt = _
      rw [s1]
      exact I_ti (by omega) (by omega)
    refine pu_pk (w := m0) ?_
    unfold jm_Cm_pattern jb_Cm_pattern_0
    refine l_ck (fun _ => ?_)
    rw [i_nt2 (show n ≤ 100000 by omega), tre fr (by decide) (v := 4) (l16.trans (by rw [z4]; rfl))]
    rw [decide_eq_false (show ¬ (I 4 = (1 : Int32)) by decide), br_f, decide_eq_false (show ¬ (I 4 = (2 : Int32)) by decide), br_f, decide_eq_false (show ¬ (I 4 = (3 : Int32)) by decide), br_f, decide_eq_true (show (I 4 = (4 : Int32)) by decide), br_t]
    refine up_put (UPQ_rf hC ok) (fun _ h1 => l_bnd (pk_mo (cs_p h1.1 (by omega) e18 s6 s7 s8 s9) (fun m2 _ h => ?_)))
    obtain ⟨p1, p2, -⟩ := h
    unfold jb_Cm_pattern_298
    exact pp_end ⟨_, _, _, UPQ_mo (UPQ_tr h1 (k2 := 0) ⟨p1, ok, List.prefix_rfl, Nat.le_refl _, ⟨by omega, Nat.le_refl _⟩, p2⟩) (by omega)⟩
  · refine pu_pk (w := m0) (cp_lit hC (by omega) l16 (by omega) (fun m2 q1 q2 q3 q4 => pp_end ⟨a + 3, cm, e, q1, ok, List.prefix_rfl, by omega, ⟨by omega, Nat.le_refl _⟩, q2⟩))
/-- parts of a TUPLE -/
theorem u_ptl (IH : HUP N m0 T nm f) (hxb : xb ≤ 8015) (hiT : hi ≤ T) (htot : tot (e :: t) + KK ≤ 4000) : ∀ (k n lo xa q M kk : Nat) (m2 : MS) (b cm2 : Nat) (e2 : List Nat × List Nat × Nat), RWcK m0 1 26 (PAcK m0 f) k n lo hi xa xb q r → UPQ m0 nm t own kk m a cm e m2 b cm2 e2 → kk + (hi - lo) ≤ KK → PP (fun v (_ : Unit) (_ : MS) (_ : Unit) => UPP m0 nm t own KK m a cm e v) (jg_Cm_pattern N (jrc_Cm_listPattern N D) M m2 (I (n : Nat))) (some (m0, ()))
  | 0, n, lo, xa, q, M, kk, m2, b, cm2, e2, h, hX, hk => h.elim
  | k + 1, n, lo, xa, q, M, kk, m2, b, cm2, e2, h, hX, hk => by
    obtain ⟨mid, c1, s, hE, h⟩ := h
    have hd := PA_bdK _ _ _ _ _ _ _ _ hE
    unfold HDc at hd
    have hms : mid ≤ hi ∧ c1 ≤ xb := by
      rcases h with ⟨-, -, rfl, rfl, rfl⟩ | ⟨⟨-, k27⟩, n2, -, hw⟩
      · exact ⟨Nat.le_refl _, Nat.le_refl _⟩
      · have := (RW_hdK (PA_bdK f) hw).1
        unfold HDc at this
        exact ⟨by omega, by omega⟩
    have tt := hX.2.2.2.1
    have o1 : 1 ≤ n ∧ n ≤ 8015 ∧ c1 ≤ 8015 ∧ mid ≤ T ∧ tot (e2 :: t) + (mid - lo) ≤ 4000 := by clear h; exact ⟨by omega, by omega, by omega, by omega, by omega⟩
    cases M with
    | zero => exact pp_nl
    | succ M =>
    show PP _ (jb_Cm_pattern_268 N (jrc_Cm_listPattern N D) (jg_Cm_pattern N (jrc_Cm_listPattern N D) M) m2 (I (n : Nat))) _
    unfold jb_Cm_pattern_268
    rw [decide_eq_false (fun z => by
      have := (I_eq (x := ((n : Nat) : Int)) (y := 0) (by omega) (by omega) (by decide) (by decide)).mp z
      omega), br_f]
    refine l_bnd (pk_mo (IH D n lo mid xa c1 q s m2 b cm2 e2 t own hE o1.2.2.1 o1.2.2.2.1 hX.1 hX.2.1 o1.2.2.2.2) (fun m3 z hz => l_ck (fun _ => ?_)))
    obtain ⟨b3, cm3, e3, h3⟩ := hz
    have hX3 := UPQ_tr hX h3
    rw [i_nt2 (show n ≤ 100000 by omega)]
    rcases h with ⟨rfl, h21, rfl, rfl, rfl⟩ | ⟨⟨hk1, hk27⟩, n2, h21, hw⟩
    · rw [tre hX3.1.1 (by decide) h21]
      cases M with
      | zero => exact pp_nl
      | succ M =>
      show PP _ (jb_Cm_pattern_268 N (jrc_Cm_listPattern N D) (jg_Cm_pattern N (jrc_Cm_listPattern N D) M) m3 (I 0)) _
      unfold jb_Cm_pattern_268 jb_Cm_pattern_298
      rw [show decide (I 0 = (0 : Int32)) = true from rfl, br_t]
      exact pp_end ⟨_, _, _, UPQ_mo hX3 (by omega)⟩
    · have hw1 := (RW_hdK (PA_bdK f) hw).1
      unfold HDc at hw1
      rw [tre hX3.1.1 (by decide) h21]
      exact u_ptl IH hxb hiT htot k n2 (mid + 1) c1 s M (kk + (mid - lo)) m3 b3 cm3 e3 hw hX3 (by omega)
/-- parts of a LIST -/
theorem u_pll {HH : Nat} (IH : HUP N m0 T nm f) (hnn : n1 ≤ 8015) (hxb : xb ≤ 8015) (hiT : hi ≤ T) (htot : tot (e :: t) + KK ≤ 4000) (hend : ∀ m3 b3 cm3 e3 M, UPQ m0 nm t own KK m a cm e m3 b3 cm3 e3 → PP (fun v (_ : Unit) (_ : MS) (_ : Unit) => UPP m0 nm t own HH m a cm e v) (jg_Cm_listPattern N (jrc_Cm_listPattern N D) M m3 (I (n1 : Nat)) (I 0)) (some (m0, ()))) : ∀ (k n lo xa q M kk : Nat) (m2 : MS) (b cm2 : Nat) (e2 : List Nat × List Nat × Nat), RWcK m0 1 26 (PAcK m0 f) k n lo hi xa xb q r → UPQ m0 nm t own kk m a cm e m2 b cm2 e2 → kk + (hi - lo) ≤ KK → PP (fun v (_ : Unit) (_ : MS) (_ : Unit) => UPP m0 nm t own HH m a cm e v) (jg_Cm_listPattern N (jrc_Cm_listPattern N D) M m2 (I (n1 : Nat)) (I (n : Nat))) (some (m0, ()))
  | 0, n, lo, xa, q, M, kk, m2, b, cm2, e2, h, hX, hk => h.elim
  | k + 1, n, lo, xa, q, M, kk, m2, b, cm2, e2, h, hX, hk => by
    obtain ⟨mid, c1, s, hE, h⟩ := h
    have hd := PA_bdK _ _ _ _ _ _ _ _ hE
    unfold HDc at hd
    have hms : mid ≤ hi ∧ c1 ≤ xb := by
      rcases h with ⟨-, -, rfl, rfl, rfl⟩ | ⟨⟨-, k27⟩, n2, -, hw⟩
      · exact ⟨Nat.le_refl _, Nat.le_refl _⟩
      · have := (RW_hdK (PA_bdK f) hw).1
        unfold HDc at this
        exact ⟨by omega, by omega⟩
    have tt := hX.2.2.2.1
    have o1 : 1 ≤ n ∧ n ≤ 8015 ∧ c1 ≤ 8015 ∧ mid ≤ T ∧ tot (e2 :: t) + (mid - lo) ≤ 4000 := by clear h; exact ⟨by omega, by omega, by omega, by omega, by omega⟩
    cases M with
    | zero => exact pp_nl
    | succ M =>
    show PP _ (jb_Cm_listPattern_10 N (jrc_Cm_listPattern N D) (jg_Cm_listPattern N (jrc_Cm_listPattern N D) M) m2 (I (n1 : Nat)) (I (n : Nat))) _
    unfold jb_Cm_listPattern_10
    rw [decide_eq_false (fun z => by
      have := (I_eq (x := ((n : Nat) : Int)) (y := 0) (by omega) (by omega) (by decide) (by decide)).mp z
      omega), br_f]
    refine up_put hX (fun _ hX => l_bnd (pk_mo (IH D n lo mid xa c1 q s _ _ cm2 e2 t own hE o1.2.2.1 o1.2.2.2.1 hX.1 hX.2.1 o1.2.2.2.2) (fun m3 z hz => l_ck (fun _ => ?_))))
    obtain ⟨b3, cm3, e3, h3⟩ := hz
    have hX3 := UPQ_tr hX h3
    rw [i_nt2 (show n ≤ 100000 by omega)]
    rcases h with ⟨rfl, h21, rfl, rfl, rfl⟩ | ⟨⟨hk1, hk27⟩, n2, h21, hw⟩
    · rw [tre hX3.1.1 (by decide) h21]
      exact hend m3 b3 cm3 e3 M (UPQ_mo hX3 (by omega))
    · have hw1 := (RW_hdK (PA_bdK f) hw).1
      unfold HDc at hw1
      rw [tre hX3.1.1 (by decide) h21]
      exact u_pll IH hnn hxb hiT htot hend k n2 (mid + 1) c1 s M (kk + (mid - lo)) m3 b3 cm3 e3 hw hX3 (by omega)
/-- all PATTERNS -/
theorem u_pat (c : CTZ m0 w0 K T nm Nk) (cv : CTV m0 w0 K T) : ∀ f, HUP N m0 T nm f
  | 0 => fun _ _ _ _ _ _ _ _ _ _ _ _ _ _ h => h.elim
  | f + 1 => fun D n lo hi xa xb q r m a cm e t own hE hxb hiT hC ok htot => by
    have IH := u_pat c cv f
    obtain ⟨hdc, -, -, hE⟩ := hE
    have hd := hdc
    unfold HDc at hd
    have hn : n ≤ 8015 := by omega
    have fr := hC.1
    cases D with
    | zero => exact fun _ _ z => (by cases z)
    | succ D =>
    show PK _ (jm_Cm_pattern N (jrc_Cm_listPattern N D) m (I (n : Nat)))
    rcases hE with ⟨hl, rfl⟩ | ⟨h16, n1, h18, hn1, hl, h61, rfl, h60⟩ | ⟨h16, n1, cc, h18, pa, hc, h6, h6b⟩ | ⟨h16, k, m1, c1, h18, h19, ⟨hk8, h6, h6b⟩, hO, hc1⟩ | ⟨h16, k, m1, mid, c1, s1, h18, h19, ⟨hk8, h6, h6b⟩, hO, hT⟩
    · rw [show lo + 1 - lo = 1 by omega]
      exact u_plf c cv hC ok hn hl (by omega) (by omega)
    · exact pu_pk (w := m0) (cp_neg hC (by omega) h16 h18 (by omega) (fun m2 q1 q2 q3 q4 => pp_end ⟨a + 3, cm, e, q1, ok, List.prefix_rfl, by omega, ⟨by omega, Nat.le_refl _⟩, q2⟩))
    · refine pu_pk (w := m0) ?_
      have hd1 := PA_bdK _ _ _ _ _ _ _ _ pa
      unfold HDc at hd1
      unfold jm_Cm_pattern jb_Cm_pattern_0
      refine l_ck (fun _ => ?_)
      rw [i_nt2 (show n ≤ 100000 by omega), tre fr (by decide) h16]
      rw [decide_eq_false (show ¬ (I 5 = (1 : Int32)) by decide), br_f, decide_eq_false (show ¬ (I 5 = (2 : Int32)) by decide), br_f, decide_eq_false (show ¬ (I 5 = (3 : Int32)) by decide), br_f, decide_eq_false (show ¬ (I 5 = (4 : Int32)) by decide), br_f, decide_eq_true (show (I 5 = (5 : Int32)) by decide), br_t]
      refine l_ck (fun _ => ?_)
      rw [tre fr (by decide) h18]
      refine l_bnd (pk_mo (IH D n1 (lo + 1) (hi - 1) xa cc q r m a cm e t own pa (by omega) (by omega) hC ok (by omega)) (fun m3 z hz => ?_))
      obtain ⟨b3, cm3, e3, h3⟩ := hz
      unfold jb_Cm_pattern_298
      exact pp_end ⟨_, _, _, UPQ_mo h3 (by omega)⟩
    · refine pu_pk (w := m0) ?_
      unfold jm_Cm_pattern jb_Cm_pattern_0
      refine l_ck (fun _ => ?_)
      rw [i_nt2 (show n ≤ 100000 by omega), tre fr (by decide) h16]
      rw [decide_eq_false (show ¬ (I 6 = (1 : Int32)) by decide), br_f, decide_eq_false (show ¬ (I 6 = (2 : Int32)) by decide), br_f, decide_eq_false (show ¬ (I 6 = (3 : Int32)) by decide), br_f, decide_eq_false (show ¬ (I 6 = (4 : Int32)) by decide), br_f, decide_eq_false (show ¬ (I 6 = (5 : Int32)) by decide), br_f, decide_eq_true (show (I 6 = (6 : Int32)) by decide), br_t]
      refine up_put (UPQ_rf hC ok) (fun _ h1 => l_ck (fun _ => up_put h1 (fun _ h2 => l_ck (fun _ => ?_))))
      rw [tre h2.1.1 (by decide) h18]
      rcases hO with ⟨-, rfl, -, -, -⟩ | ⟨-, hO⟩
      · have e268 : ∀ M mm, UPQ m0 nm t own 0 m a cm e mm (a + 1 + 1) cm e → PP (fun v (_ : Unit) (_ : MS) (_ : Unit) => UPP m0 nm t own (hi - lo) m a cm e v) (jg_Cm_pattern N (jrc_Cm_listPattern N D) M mm (I ((0 : Nat) : Int))) (some (m0, ())) := fun M mm hmm => by
          cases M with
          | zero => exact pp_nl
          | succ M =>
          show PP _ (jb_Cm_pattern_268 N (jrc_Cm_listPattern N D) (jg_Cm_pattern N (jrc_Cm_listPattern N D) M) mm (I 0)) _
          unfold jb_Cm_pattern_268 jb_Cm_pattern_298
          rw [show decide (I 0 = (0 : Int32)) = true from rfl, br_t]
          exact pp_end ⟨_, _, _, UPQ_mo hmm (by omega)⟩
        exact e268 N _ h2
      · have hw := (RW_hdK (PA_bdK f) hO).1
        unfold HDc at hw
        exact u_ptl (KK := hi - lo) IH (by omega) (by omega) (by omega) k m1 (lo + 1) xa q N 0 _ _ cm e hO h2 (by omega)
    · have bd : lo < mid ∧ mid < hi ∧ c1 ≤ n := by
        have h1 := OR_hdK (PA_bdK f) hO
        rcases hT with ⟨-, h2, h3, h4⟩ | ⟨-, x, c2, -, hx, h2⟩
        · omega
        · have := PA_bdK _ _ _ _ _ _ _ _ hx
          unfold HDc at this
          omega
      refine pu_pk (w := m0) ?_
      unfold jm_Cm_pattern jb_Cm_pattern_0
      refine l_ck (fun _ => ?_)
      rw [i_nt2 (show n ≤ 100000 by omega), tre fr (by decide) h16]
      rw [decide_eq_false (show ¬ (I 7 = (1 : Int32)) by decide), br_f, decide_eq_false (show ¬ (I 7 = (2 : Int32)) by decide), br_f, decide_eq_false (show ¬ (I 7 = (3 : Int32)) by decide), br_f, decide_eq_false (show ¬ (I 7 = (4 : Int32)) by decide), br_f, decide_eq_false (show ¬ (I 7 = (5 : Int32)) by decide), br_f, decide_eq_false (show ¬ (I 7 = (6 : Int32)) by decide), br_f, decide_eq_true (show (I 7 = (7 : Int32)) by decide), br_t]
      unfold jb_Cm_pattern_298
      refine l_id ?_
      cases D with
      | zero => exact pp_nl
      | succ D =>
      show PP _ (jb_Cm_listPattern_0 N (jrc_Cm_listPattern N D) (jg_Cm_listPattern N (jrc_Cm_listPattern N D) N) m (I (n : Nat))) _
      unfold jb_Cm_listPattern_0
      refine l_ck (fun _ => ?_)
      rw [i_nt2 (show n ≤ 100000 by omega), tre fr (by decide) h18]
      have fin : ∀ m3 b3 cm3 e3 M, UPQ m0 nm t own (mid - lo) m a cm e m3 b3 cm3 e3 → PP (fun v (_ : Unit) (_ : MS) (_ : Unit) => UPP m0 nm t own (hi - lo) m a cm e v) (jg_Cm_listPattern N (jrc_Cm_listPattern N D) M m3 (I (n : Nat)) (I 0)) (some (m0, ())) := fun m3 b3 cm3 e3 M h3 => by
        cases M with
        | zero => exact pp_nl
        | succ M =>
        show PP _ (jb_Cm_listPattern_10 N (jrc_Cm_listPattern N D) (jg_Cm_listPattern N (jrc_Cm_listPattern N D) M) m3 (I (n : Nat)) (I 0)) _
        unfold jb_Cm_listPattern_10 jb_Cm_listPattern_84
        rw [show decide (I 0 = (0 : Int32)) = true from rfl, br_t, i_nt2 (show n ≤ 100000 by omega)]
        refine l_ck (fun _ => ?_)
        have nu := h3.2.2.2.1
        rcases hT with ⟨h20, hh, hs, h4⟩ | ⟨hh, x, c2, h20, hx, h2⟩
        · rw [tre h3.1.1 (by decide) h20, show decide (I 0 = (0 : Int32)) = true from rfl, br_t]
          refine up_put h3 (fun _ h5 => ?_)
          unfold jm_Cm_term jb_Cm_term_0
          rw [bnd_as2]
          refine up_put h5 (fun _ h6 => ?_)
          rw [bnd_as2]
          refine up_put h6 (fun _ h7 => ?_)
          rw [bnd_s]
          exact pp_end ⟨_, _, _, UPQ_mo h7 (by omega)⟩
        · have hd2 := PA_bdK _ _ _ _ _ _ _ _ hx
          unfold HDc at hd2
          rw [tre h3.1.1 (by decide) h20, decide_eq_false (fun z => by
            have := (I_eq (x := ((x : Nat) : Int)) (y := 0) (by omega) (by omega) (by decide) (by decide)).mp z
            omega), br_f]
          refine l_ck (fun _ => l_bnd (pk_mo (IH D x (mid + 1) (hi - 1) c1 c2 s1 r m3 b3 cm3 e3 t own hx (by omega) (by omega) h3.1 h3.2.1 (by omega)) (fun m4 z hz => ?_)))
          obtain ⟨b4, cm4, e4, h4⟩ := hz
          exact pp_end ⟨_, _, _, UPQ_mo (UPQ_tr h3 h4) (by omega)⟩
      rcases hO with ⟨-, rfl, -, -, -⟩ | ⟨-, hO⟩
      · exact fin m a cm e N (UPQ_mo (UPQ_rf hC ok) (by omega))
      · have hw := (RW_hdK (PA_bdK f) hO).1
        unfold HDc at hw
        exact u_pll (KK := mid - lo) (HH := hi - lo) IH hn (by omega) (by omega) (by omega) fin k m1 (lo + 1) xa q N 0 m a cm e hO (UPQ_rf hC ok) (by omega)
end
