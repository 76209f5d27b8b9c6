/-! what compiling an E does to names, there alone: leaves, ( ), rows, TUPLES, LISTS -/
set_option maxRecDepth 100000
/-- what is left as it was -/
def UFC (m m2 : MS) (a s : Nat) : Prop := (∀ k, k ≠ 441 → k ≠ 706 → m2.1 k = m.1 k) ∧ (∀ j, j < a → m2.2.2.1 23 j = m.2.2.1 23 j) ∧ (∀ j, j ≤ s → m2.2.2.1 40 j = m.2.2.1 40 j) ∧ ∀ j, j < s → m2.2.2.1 41 j = m.2.2.1 41 j
def UXQ (m0 : MS) (nm : Nat → Nat) (t : SCT) (g : Bool) (k : Nat) (m : MS) (a cm : Nat) (e : List Nat × List Nat × Nat) (m2 : MS) (b cm2 : Nat) (e2 : List Nat × List Nat × Nat) : Prop := XCS m0 nm m2 b cm2 (e2 :: t) g ∧ SOK (e2 :: t) ∧ e.1 <+: e2.1 ∧ tot (e2 :: t) ≤ tot (e :: t) + k ∧ (a ≤ b ∧ cm ≤ cm2) ∧ UFC m m2 a t.length
def UXP (m0 : MS) (nm : Nat → Nat) (t : SCT) (g : Bool) (k : Nat) (m : MS) (a cm : Nat) (e : List Nat × List Nat × Nat) (m2 : MS) : Prop := ∃ (b cm2 : Nat) (e2 : List Nat × List Nat × Nat), UXQ m0 nm t g k m a cm e m2 b cm2 e2
def HUE (N : Nat) (m0 : MS) (T : Nat) (nm : Nat → Nat) (f : Nat) : Prop := ∀ (D o cl n lo hi xa xb q r : Nat) (m : MS) (a cm : Nat) (e : List Nat × List Nat × Nat) (t : SCT) (g lst : Bool), XPcK m0 f o cl n lo hi xa xb q r → xb ≤ 8015 → r ≤ 400 → hi ≤ T → XCS m0 nm m a cm (e :: t) g → SOK (e :: t) → (tot (e :: t) + (hi - lo) ≤ 4000 ∧ (e :: t).length ≤ o + 1) → PK (fun v _ => UXP m0 nm t g (hi - lo) m a cm e v) ((jrc_Cm_fun N D).2.2.2.2.2.2.2.2.2.2.1 m (I (n : Nat)) (lsI lst))
section
variable {α β : Type} {m0 w0 m w m2 w2 m3 w3 v u w1 mS wS : MS} {K nm Nk W W2 : Nat → Nat} {N T D d o a a0 b b0 c cm cm0 cm2 cm3 q q0 r s lo lo0 mid hi i j f f2 n k k2 kk KK p p2 σ tk x xa xb xc mm M m1 lv y cl : Nat} {Q Q0 Q2 Q3 Q4 : Nat → Nat} {sc sc0 sc2 sc3 t t2 : SCT} {e e2 e3 : List Nat × List Nat × Nat} {g lst l2 : Bool} {L L1 L2 : List Nat} {idc fof cvr : Int → Int → Int} {z : Unit} {rt v1 v2 v3 v4 v5 xx : Int32} {fc : MS → Unit → Option (MS × α)} {RU : MS → α → MS → β → Prop} {B : Option (MS × β)} {QU : MS → Prop} {AU : Option (MS × Unit)} {S : SF_Cm_fun}
theorem pu_pk (h : PP (fun v (_ : Unit) (_ : MS) (_ : Unit) => QU v) AU (some (w, ()))) : PK (fun v _ => QU v) AU := fun v r e => h v r w () e rfl
theorem UFC_rf : UFC m m a σ := ⟨fun _ _ _ => rfl, fun _ _ => rfl, fun _ _ => rfl, fun _ _ => rfl⟩
theorem UFC_tr (h : UFC m m2 a σ) (k : UFC m2 m3 b σ) (hab : a ≤ b) : UFC m m3 a σ := ⟨fun j h1 h2 => (k.1 j h1 h2).trans (h.1 j h1 h2), fun j hj => (k.2.1 j (by omega)).trans (h.2.1 j hj), fun j hj => (k.2.2.1 j hj).trans (h.2.2.1 j hj), fun j hj => (k.2.2.2 j hj).trans (h.2.2.2 j hj)⟩
theorem XFC_U (h : XFC m m2 a q r σ) : UFC m m2 a σ := ⟨h.1, h.2.2.1, h.2.2.2.2.1, h.2.2.2.2.2⟩
theorem UXQ_rf (hC : XCS m0 nm m a cm (e :: t) g) (ok : SOK (e :: t)) : UXQ m0 nm t g 0 m a cm e m a cm e := ⟨hC, ok, List.prefix_rfl, Nat.le_refl _, ⟨Nat.le_refl _, Nat.le_refl _⟩, UFC_rf⟩
theorem UXQ_tr (h : UXQ m0 nm t g k m a cm e m2 b cm2 e2) (h2 : UXQ m0 nm t g k2 m2 b cm2 e2 m3 c cm3 e3) : UXQ m0 nm t g (k + k2) m a cm e m3 c cm3 e3 := by
  obtain ⟨-, -, a3, a4, a5, a6⟩ := h
  obtain ⟨b1, b2, b3, b4, b5, b6⟩ := h2
  exact ⟨b1, b2, a3.trans b3, by omega, ⟨by omega, by omega⟩, UFC_tr a6 b6 a5.1⟩
theorem UXQ_mo (h : UXQ m0 nm t g k m a cm e m2 b cm2 e2) (hk : k ≤ k2) : UXQ m0 nm t g k2 m a cm e m2 b cm2 e2 := ⟨h.1, h.2.1, h.2.2.1, by have := h.2.2.2.1; omega, h.2.2.2.2⟩
/-- a word -/
theorem u_put (h : UXQ m0 nm t g k m a cm e m2 b cm2 e2) (hh : b < 23990 → UXQ m0 nm t g k m a cm e (ptc m2 b xx) (b + 1) cm2 e2 → PP RU (fc (ptc m2 b xx) ()) B) : PP RU (bnd (jm_Co_put N m2 xx) fc) B := by
  obtain ⟨a1, a2, a3, a4, a5, a6⟩ := h
  refine l_put a1.1.2.2.1.1 a1.1.2.2.1.2.2 (fun ha => hh ha ⟨XCS_put a1 ha, a2, a3, a4, ⟨by omega, a5.2⟩, UFC_tr a6 (XFC_U (q := 0) (r := 0) (XFC_put XFC_rf (Nat.le_refl b))) a5.1⟩)
/-- a leaf -/
theorem u_leaf (c : CTZ m0 w0 K T nm Nk) (cv : CTV m0 w0 K T) (hC : XCS m0 nm m a cm (e :: t) g) (ok : SOK (e :: t)) (hn : n ≤ 8015) (hlf : LFc m0 n lo) (hl : lo < T) : PK (fun v _ => UXP m0 nm t g 0 m a cm e v) (jm_Cm_expression N S m (I (n : Nat)) v2) := by
  obtain ⟨l16, k1, k4, l17, l18⟩ := lf_7 c hlf (by omega)
  have fr := XCS_fr hC
  have t4 := c.2.1.1.1
  refine pu_pk (w := w0) ?_
  have num : ∀ z : Int32, PP (fun v (_ : Unit) (_ : MS) (_ : Unit) => UXP m0 nm t g 0 m a cm e v) (bnd (jm_Co_put N m 1) (fun u24 r24 => ck (inb (I (n : Nat)) 8016) (bnd (jm_Cm_term N u24 z (u24.2.2.1 18 n)) (fun u31 r31 => jb_Cm_expression_359 N S () u31)))) (some (w0, ())) := fun z => by
    refine u_put (UXQ_rf hC ok) (fun _ h1 => l_ck (fun _ => ?_))
    unfold jm_Cm_term jb_Cm_term_0
    rw [bnd_as2]
    refine u_put h1 (fun _ h2 => ?_)
    rw [bnd_as2]
    refine u_put h2 (fun _ h3 => ?_)
    rw [bnd_s]
    exact pp_end ⟨_, _, _, h3⟩
  by_cases z1 : K lo = 1
  · exact exd_1 hn (tre fr (by decide) (v := 1) (l16.trans (by rw [z1]; rfl))) (num 0)
  by_cases z2 : K lo = 2
  · exact exd_2 hn (tre fr (by decide) (v := 2) (l16.trans (by rw [z2]; rfl))) (num 1)
  by_cases z3 : K lo = 3
  · obtain ⟨c7, -, cx, cu⟩ := c.2.2.2 lo hl z3
    have e18 : m.2.2.1 18 n = I (nm (Nk lo) : Nat) := by
      rw [tre fr (by decide) l18]
      show I (m0.2.2.1 7 lo).toInt = _
      rw [← I_of, c7]
    have e17 : m.2.2.1 17 n = I (lo : Nat) := tre fr (by decide) l17
    have nb := c.2.2.1.2 (Nk lo)
    refine exd_3 hn (tre fr (by decide) (v := 3) (l16.trans (by rw [z3]; rfl))) (l_ck (fun _ => ?_))
    have flt : ∀ (u : MS), PP (fun v (_ : Unit) (_ : MS) (_ : Unit) => UXP m0 nm t g 0 m a cm e v) (jb_Cm_expression_221 N S () u (I (n : Nat)) (I (lo : Nat))) (some (w0, ())) := fun u => by
      unfold jb_Cm_expression_221
      exact l_flt (tk := lo) (k := 5) rfl rfl (by omega) (by decide)
    rw [e18, e17]
    by_cases z0 : nm (Nk lo) = 0
    · rw [z0, show decide (I ((0 : Nat) : Int) = (0 : Int32)) = true from rfl, br_t]
      exact flt m
    rw [decide_eq_false (fun z => z0 (by
      have := (I_eq (x := ((nm (Nk lo) : Nat) : Int)) (y := 0) (by omega) (by omega) (by decide) (by decide)).mp z
      omega)), br_f]
    refine l_ck (fun _ => l_bnd (pk_mo (isB_all c.2.2.1 hC.1.2.1 ok cx (by omega)) (fun v r h => ?_)))
    rcases h with ⟨h1, h2, h3⟩ | ⟨h1, h2, h3⟩
    · rw [h1, show decide ((0 : Int32) = 0) = true from rfl, br_t]
      exact flt v
    rw [h1, show decide ((1 : Int32) = 0) = false from rfl, br_f]
    unfold jb_Cm_expression_227 jb_Cm_expression_359
    have hv : UXQ m0 nm t g 0 m a cm e v a cm e := by
      rw [h3]
      exact ⟨⟨PCS_42 hC.1, hC.2⟩, ok, List.prefix_rfl, Nat.le_refl _, ⟨Nat.le_refl _, Nat.le_refl _⟩, ⟨fun _ _ _ => rfl, fun j _ => by rw [upA_no (by decide)], fun j _ => by rw [upA_no (by decide)], fun j _ => by rw [upA_no (by decide)]⟩⟩
    refine u_put hv (fun _ h1 => l_ck (fun _ => u_put h1 (fun _ h2 => ?_)))
    exact pp_end ⟨_, _, _, h2⟩
  · obtain ⟨fr0, s0, b, l, s1, s2, s3, s4, s5, s6, s7, s8, s9⟩ := (cv lo hl).2.2 (show K lo = 4 by omega)
    refine exd_4 hn (tre fr (by decide) (v := 4) (l16.trans (by rw [show K lo = 4 by omega]; rfl))) ?_
    refine l_ntg (tk := lo) hC.2 (tre fr (by decide) l17) (by omega) (fun hg => ?_)
    refine u_put (UXQ_rf hC ok) (fun _ h1 => ?_)
    have e18 : A m0 18 n = ((fr0 : Nat) : Int) := by
      rw [l18]
      show (m0.2.2.1 7 lo).toInt = _
      rw [s1]
      exact I_ti (by omega) (by omega)
    refine l_bnd (pk_mo (cs_p h1.1.1 (by omega) e18 s6 s7 s8 s9) (fun m2 _ h => ?_))
    obtain ⟨p1, p2, p3, p4, p5⟩ := h
    have hm2 : XCS m0 nm m2 (a + 1 + 1 + l) cm (e :: t) g := ⟨p1, by rw [p2.1 712 (by decide) (by decide)]; exact h1.1.2⟩
    unfold jb_Cm_expression_359
    refine pp_end ⟨_, _, _, UXQ_tr h1 (k2 := 0) ⟨hm2, ok, List.prefix_rfl, Nat.le_refl _, ⟨by omega, Nat.le_refl _⟩, XFC_U (q := 0) (r := 0) (XFC_P p2)⟩⟩
/-- a row of E's -/
theorem u_row (IE : HUE N m0 T nm f) (hxb : xb ≤ 8015) (hr4 : r ≤ 400) (hiT : hi ≤ T) (htot : tot (e :: t) + KK ≤ 4000 ∧ (e :: t).length ≤ o + 1) (hh : ∀ m3 c cm3 e3, UXQ m0 nm t g KK m a cm e m3 c cm3 e3 → PP RU (fc m3 ()) B) : ∀ (k n lo xa q M kk : Nat) (m2 : MS) (b cm2 : Nat) (e2 : List Nat × List Nat × Nat), RWcK m0 1 26 (XPcK m0 f o 3) k n lo hi xa xb q r → UXQ m0 nm t g kk m a cm e m2 b cm2 e2 → kk + (hi - lo) ≤ KK → PP RU (bnd (jg_Cm_row N (jrc_Cm_fun N D) M m2 (I (n : Nat))) fc) B
  | 0, n, lo, xa, q, M, kk, m2, b, cm2, e2, h, hX, hk => h.elim
  | k + 1, n, lo, xa, q, M, kk, m2, b, cm2, e2, h, hX, hk => by
    obtain ⟨mid, c1, s, hE, h⟩ := h
    have hd := XP_bdK _ _ _ _ _ _ _ _ _ _ hE
    unfold HDc at hd
    have hms : mid ≤ hi ∧ c1 ≤ xb ∧ s ≤ r := by
      rcases h with ⟨-, -, rfl, rfl, rfl⟩ | ⟨⟨-, k27⟩, n2, -, hw⟩
      · exact ⟨Nat.le_refl _, Nat.le_refl _, Nat.le_refl _⟩
      · have := (RW_hdK (XP_bdK _ _ _) hw).1
        unfold HDc at this
        exact ⟨by omega, by omega, by omega⟩
    have el : (e2 :: t).length = (e :: t).length := rfl
    have tt := hX.2.2.2.1
    have o1 : 1 ≤ n ∧ n ≤ 8015 ∧ c1 ≤ 8015 ∧ s ≤ 400 ∧ mid ≤ T ∧ tot (e2 :: t) + (mid - lo) ≤ 4000 := by clear h; exact ⟨by omega, by omega, by omega, by omega, by omega, by omega⟩
    refine row_s ⟨o1.1, o1.2.1⟩ (fun M => l_bnd (pk_mo (IE D o 3 n lo mid xa c1 q s m2 b cm2 e2 t g false hE o1.2.2.1 o1.2.2.2.1 o1.2.2.2.2.1 hX.1 hX.2.1 ⟨o1.2.2.2.2.2, by rw [el]; exact htot.2⟩) (fun m3 z hz => ?_)))
    obtain ⟨b3, cm3, e3, h3⟩ := hz
    have hX3 := UXQ_tr hX h3
    have fr3 := XCS_fr hX3.1
    rcases h with ⟨rfl, h21, rfl, rfl, rfl⟩ | ⟨⟨hk1, hk27⟩, n2, h21, hw⟩
    · rw [tre fr3 (by decide) h21]
      exact row_0 (hh m3 b3 cm3 e3 (UXQ_mo hX3 (by omega)))
    · have hw1 := (RW_hdK (XP_bdK _ _ _) hw).1
      unfold HDc at hw1
      rw [tre fr3 (by decide) h21]
      exact u_row IE hxb hr4 hiT htot hh k n2 (mid + 1) c1 s M (kk + (mid - lo)) m3 b3 cm3 e3 hw hX3 (by omega)
theorem u_orow (IE : HUE N m0 T nm f) (hE : ORcK m0 1 26 (XPcK m0 f o 3) k n lo hi xa xb q r) (hxb : xb ≤ 8015) (hr4 : r ≤ 400) (hiT : hi ≤ T) (hX : UXQ m0 nm t g kk m a cm e m2 b cm2 e2) (hk : kk + (hi - lo) ≤ KK) (htot : tot (e :: t) + KK ≤ 4000 ∧ (e :: t).length ≤ o + 1) (hh : ∀ m3 c cm3 e3, UXQ m0 nm t g KK m a cm e m3 c cm3 e3 → PP RU (fc m3 ()) B) : PP RU (bnd (jg_Cm_row N (jrc_Cm_fun N D) M m2 (I (n : Nat))) fc) B := by
  rcases hE with ⟨-, rfl, -, -, -⟩ | ⟨-, hE⟩
  · exact row_0 (hh m2 b cm2 e2 (UXQ_mo hX (by omega)))
  · exact u_row IE hxb hr4 hiT htot hh k n lo xa q M kk m2 b cm2 e2 hE hX hk
/-- ( ) -/
theorem u_grp (IE : HUE N m0 T nm f) (hC : XCS m0 nm m a cm (e :: t) g) (ok : SOK (e :: t)) (hn : n ≤ 8015) (h16 : A m0 16 n = 5) (h18 : A m0 18 n = ((x : Nat) : Int)) (hE : XPcK m0 f (o + 1) 3 x (lo + 1) (hi - 1) xa xb q r) (hx8 : x ≤ 8015) (hxb : xb ≤ 8015) (hr4 : r ≤ 400) (hiT : hi ≤ T) (hlh : lo + 2 ≤ hi) (htot : tot (e :: t) + (hi - lo) ≤ 4000 ∧ (e :: t).length ≤ o + 1) : PK (fun v _ => UXP m0 nm t g (hi - lo) m a cm e v) (jm_Cm_expression N (jrc_Cm_fun N D) m (I (n : Nat)) (lsI lst)) := by
  have fr := XCS_fr hC
  refine pu_pk (w := m0) (exd_5 hn (tre fr (by decide) h16) (l_ck (fun _ => ?_)))
  rw [tre fr (by decide) h18]
  refine l_bnd (pk_mo (IE D (o + 1) 3 x (lo + 1) (hi - 1) xa xb q r m a cm e t g lst hE hxb hr4 (by omega) hC ok ⟨by omega, by omega⟩) (fun m3 z hz => ?_))
  obtain ⟨b3, cm3, e3, h3⟩ := hz
  unfold jb_Cm_expression_359
  exact pp_end ⟨_, _, _, UXQ_mo h3 (by omega)⟩
/-- TUPLES -/
theorem u_tup (IE : HUE N m0 T nm f) (hC : XCS m0 nm m a cm (e :: t) g) (ok : SOK (e :: t)) (hn : n ≤ 8015) (h16 : A m0 16 n = 6) (hT : TUcK m0 (XPcK m0 f (o + 1) 3) n lo hi xa q r) (hr4 : r ≤ 400) (hlh : lo + 2 ≤ hi) (hiT : hi ≤ T) (htot : tot (e :: t) + (hi - lo) ≤ 4000 ∧ (e :: t).length ≤ o + 1) : PK (fun v _ => UXP m0 nm t g (hi - lo) m a cm e v) (jm_Cm_expression N (jrc_Cm_fun N D) m (I (n : Nat)) (lsI lst)) := by
  obtain ⟨k, m1, c1, h18, h19, ⟨hk8, h6, h6b⟩, hE, hc1⟩ := hT
  have fr := XCS_fr hC
  refine pu_pk (w := m0) (exd_6 hn (tre fr (by decide) h16) (l_ck (fun _ => ?_)))
  rw [tre fr (by decide) h18]
  cases D with
  | zero => exact pp_nl
  | succ D =>
  show PP _ (bnd (jg_Cm_row N (jrc_Cm_fun N D) N m (I (m1 : Nat))) _) _
  refine u_orow (KK := hi - lo) IE hE (by omega) hr4 (by omega) (UXQ_rf hC ok) (by omega) ⟨by omega, by omega⟩ (fun m3 c3 cm3 e3 h3 => ?_)
  refine u_put h3 (fun _ h4 => l_ck (fun _ => u_put h4 (fun _ h5 => ?_)))
  unfold jb_Cm_expression_359
  exact pp_end ⟨_, _, _, h5⟩
end
