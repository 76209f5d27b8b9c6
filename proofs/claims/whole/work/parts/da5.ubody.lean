/-! what compiling an E does to names, there alone: bodies, BLOCK, SEND, CATCH, APPLIED -/
set_option maxRecDepth 100000
section
variable {α β : Type} {m0 w0 m w m2 w2 m3 w3 m4 v u w1 mS wS : MS} {K nm Nk W W2 : Nat → Nat} {N T D d o a a0 a2 b b0 c cm cm0 cm2 cm3 cm4 q q0 r s lo lo0 mid hi i j f f2 n k k2 kk KK p p2 σ tk x xa xb xc mm M m1 lv y cl l2 : Nat} {Q Q0 Q2 Q3 Q4 : Nat → Nat} {sc sc0 sc2 sc3 t t2 : SCT} {e e2 e3 e4 : List Nat × List Nat × Nat} {g lst : Bool} {L L1 L2 hs : List Nat} {idc fof cvr : Int → Int → Int} {z : Unit} {rt v1 v2 v3 v4 v5 v6 xx : Int32} {fc : MS → Unit → Option (MS × α)} {RU : MS → α → MS → β → Prop} {B : Option (MS × β)} {QU : MS → Prop} {AU : Option (MS × Unit)} {S : SF_Cm_fun}
/-- hooks arrive -/
theorem u_arr (h : UXQ m0 nm t g k m a cm e m4 b cm4 e4) (hk : HKc m4 hs v1) (ha : ∀ j, j ∈ hs → a ≤ j) (hh : ∀ Z, UXQ m0 nm t g k m a cm e Z b cm4 e4 → HKz m4 Z hs b → PP RU (fc Z ()) B) : PP RU (bnd (hm_Co_arrive N m4 v1) fc) B := by
  obtain ⟨a1, a2, a3, a4, a5, a6⟩ := h
  refine arr_n a1 hk (fun Z hZ hZC => hh Z ⟨hZC, a2, a3, a4, a5, ?_⟩ hZ)
  obtain ⟨z1, z2, z3, z4, z5⟩ := hZ
  exact ⟨fun k k1 k2 => by rw [z1]; exact a6.1 k k1 k2, fun j hj => (z4 j (fun y => by have := ha j y; omega)).trans (a6.2.1 j hj), fun j hj => by rw [z2 40 (by decide)]; exact a6.2.2.1 j hj, fun j hj => by rw [z2 41 (by decide)]; exact a6.2.2.2 j hj⟩
/-- a hook -/
theorem u_hook {fc : MS → Int32 → Option (MS × α)} (h : UXQ m0 nm t g k m a cm e m2 b cm2 e2) (hh : b < 23990 → UXQ m0 nm t g k m a cm e (ptc m2 b xx) (b + 1) cm2 e2 → PP RU (fc (ptc m2 b xx) (I (b : Nat))) B) : PP RU (bnd (jm_Co_hook N m2 xx) fc) B := by
  unfold jm_Co_hook jb_Co_hook_0
  rw [bnd_as2]
  refine u_put h (fun hb h1 => ?_)
  have e441 : (ptc m2 b xx).1 441 = I ((b + 1 : Nat) : Int) := h1.1.1.2.2.1.1
  rw [bnd_s, e441, I_sn]
  exact hh hb h1
/-- a body -/
theorem u_bod (IE : HUE N m0 T nm f) (hxb : xb ≤ 8015) (hr4 : r ≤ 400) (hiT : hi ≤ T) (htot : tot (e :: t) + KK ≤ 4000 ∧ (e :: t).length ≤ o + 1) : ∀ (k n lo xa q kf kk : Nat) (m2 : MS) (b cm2 : Nat) (e2 : List Nat × List Nat × Nat), RWcK m0 1 26 (XPcK m0 f o 3) k n lo hi xa xb q r → UXQ m0 nm t g kk m a cm e m2 b cm2 e2 → kk + (hi - lo) ≤ KK → PP (fun v (_ : Unit) (_ : MS) (_ : Unit) => UXP m0 nm t g KK m a cm e v) (jg_Cm_body N (jrc_Cm_fun N D) kf m2 (lsI lst) (I (n : Nat))) (some (m0, ()))
  | 0, n, lo, xa, q, kf, kk, m2, b, cm2, e2, h, hX, hk => h.elim
  | k + 1, n, lo, xa, q, kf, kk, m2, b, cm2, e2, h, hX, hk => by
    obtain ⟨mid, c1, s, hE, h⟩ := h
    have hd := XP_bdK _ _ _ _ _ _ _ _ _ _ hE
    unfold HDc at hd
    have hms : mid ≤ hi ∧ c1 ≤ xb ∧ s ≤ r := by
      rcases h with ⟨-, -, rfl, rfl, rfl⟩ | ⟨⟨-, k27⟩, n2, -, hw⟩
      · exact ⟨Nat.le_refl _, Nat.le_refl _, Nat.le_refl _⟩
      · have := (RW_hdK (XP_bdK _ _ _) hw).1
        unfold HDc at this
        exact ⟨by omega, by omega, by omega⟩
    have el : (e2 :: t).length = (e :: t).length := rfl
    have tt := hX.2.2.2.1
    have o1 : 1 ≤ n ∧ n ≤ 8015 ∧ c1 ≤ 8015 ∧ s ≤ 400 ∧ mid ≤ T ∧ tot (e2 :: t) + (mid - lo) ≤ 4000 := by clear h; exact ⟨by omega, by omega, by omega, by omega, by omega, by omega⟩
    cases kf with
    | zero => exact pp_nl
    | succ kf =>
    show PP _ (jb_Cm_body_2 N (jrc_Cm_fun N D) (jg_Cm_body N (jrc_Cm_fun N D) kf) m2 (lsI lst) (I (n : Nat))) _
    have n58 : ∀ m3 b3 cm3 e3, UXQ m0 nm t g (kk + (mid - lo)) m a cm e m3 b3 cm3 e3 → PP (fun v (_ : Unit) (_ : MS) (_ : Unit) => UXP m0 nm t g KK m a cm e v) (jb_Cm_body_58 N (jrc_Cm_fun N D) (jg_Cm_body N (jrc_Cm_fun N D) kf) m3 (lsI lst) (I (n : Nat))) (some (m0, ())) := fun m3 b3 cm3 e3 hX3 => by
      have fr3 := XCS_fr hX3.1
      unfold jb_Cm_body_58
      refine l_ck (fun _ => ?_)
      rw [i_nt2 (show n ≤ 100000 by omega)]
      rcases h with ⟨rfl, h21, rfl, rfl, rfl⟩ | ⟨⟨hk1, hk27⟩, n2, h21, hw⟩
      · rw [tre fr3 (by decide) h21]
        cases kf with
        | zero => exact pp_nl
        | succ kf =>
        show PP _ (jb_Cm_body_2 N (jrc_Cm_fun N D) (jg_Cm_body N (jrc_Cm_fun N D) kf) m3 (lsI lst) (I 0)) _
        unfold jb_Cm_body_2
        rw [show decide (I 0 = (0 : Int32)) = true from rfl, br_t]
        exact pp_end ⟨_, _, _, UXQ_mo hX3 (by omega)⟩
      · have hw1 := (RW_hdK (XP_bdK _ _ _) hw).1
        unfold HDc at hw1
        rw [tre fr3 (by decide) h21]
        exact u_bod IE hxb hr4 hiT htot k n2 (mid + 1) c1 s kf (kk + (mid - lo)) m3 b3 cm3 e3 hw hX3 (by omega)
    have n41 : ∀ (v4 : Int32) (l2 : Bool), PP (fun v (_ : Unit) (_ : MS) (_ : Unit) => UXP m0 nm t g KK m a cm e v) (jb_Cm_body_41 N (jrc_Cm_fun N D) (jg_Cm_body N (jrc_Cm_fun N D) kf) m2 (lsI lst) (I (n : Nat)) v4 (I (n : Nat)) (lsI l2)) (some (m0, ())) := fun v4 l2 => by
      unfold jb_Cm_body_41
      refine l_bnd (pk_mo (IE D o 3 n lo mid xa c1 q s m2 b cm2 e2 t g l2 hE o1.2.2.1 o1.2.2.2.1 o1.2.2.2.2.1 hX.1 hX.2.1 ⟨o1.2.2.2.2.2, by rw [el]; exact htot.2⟩) (fun m3 z hz => ?_))
      obtain ⟨b3, cm3, e3, h3⟩ := hz
      exact l_br (fun _ => n58 _ _ _ _ (UXQ_tr hX h3)) (fun _ => u_put (UXQ_tr hX h3) (fun _ h4 => n58 _ _ _ _ h4))
    have n23 : ∀ t0, PP (fun v (_ : Unit) (_ : MS) (_ : Unit) => UXP m0 nm t g KK m a cm e v) (jb_Cm_body_23 N (jrc_Cm_fun N D) (jg_Cm_body N (jrc_Cm_fun N D) kf) m2 (lsI lst) (I (n : Nat)) t0) (some (m0, ())) := fun t0 => by
      unfold jb_Cm_body_23 jb_Cm_body_40
      exact l_br (fun _ => n41 _ false) (fun _ => l_br (fun _ => n41 _ true) (fun _ => n41 _ false))
    unfold jb_Cm_body_2
    rw [decide_eq_false (fun z => by
      have := (I_eq (x := ((n : Nat) : Int)) (y := 0) (by omega) (by omega) (by decide) (by decide)).mp z
      omega), br_f]
    exact l_ck (fun _ => l_br (fun _ => n23 _) (fun _ => n23 _))
/-- BLOCK -/
theorem u_blk (IE : HUE N m0 T nm f) (hC : XCS m0 nm m a cm (e :: t) g) (ok : SOK (e :: t)) (hn : n ≤ 8015) (h16 : A m0 16 n = 8) (h17 : A m0 17 n = ((lo : Nat) : Int)) (h18 : A m0 18 n = ((x : Nat) : Int)) (hE : RWcK m0 1 26 (XPcK m0 f o 3) k x (lo + 1) (hi - 1) xa xb q r) (hxb : xb ≤ 8015) (hr4 : r ≤ 400) (hl4 : lo ≤ 4000) (hiT : hi ≤ T) (htot : tot (e :: t) + (hi - lo) ≤ 4000 ∧ (e :: t).length ≤ o + 1) : PK (fun v _ => UXP m0 nm t g (hi - lo) m a cm e v) (jm_Cm_expression N (jrc_Cm_fun N D) m (I (n : Nat)) (lsI lst)) := by
  have fr := XCS_fr hC
  refine pu_pk (w := m0) (exd_8 hn (tre fr (by decide) h16) (l_id ?_))
  cases D with
  | zero => exact pp_nl
  | succ D =>
  show PP _ (jm_Cm_compound N (jrc_Cm_fun N D) m (I (n : Nat)) (lsI lst)) _
  refine cmd_8 hn (tre fr (by decide) h16) hC.2 (tre fr (by decide) h17) (by omega) (fun hg => l_ck (fun _ => ?_))
  rw [tre fr (by decide) h18, hC.1.2.1.2.2.1]
  cases D with
  | zero => exact pp_nl
  | succ D =>
  refine l_bnd (pk_mo (pu_pk (w := m0) (u_bod (KK := hi - lo) (D := D) (lst := lst) IE hxb hr4 (by omega) htot k x (lo + 1) xa q N 0 m a cm e hE (UXQ_rf hC ok) (by omega))) (fun m3 z hz => ?_))
  obtain ⟨b3, cm3, e3, h3⟩ := hz
  unfold jb_Cm_compound_455
  exact u_fg h3 ok (fun m4 b4 h4 => pp_end ⟨_, _, _, UXQ_mo h4 (Nat.zero_le _)⟩)
/-- SEND -/
theorem u_snd (IE : HUE N m0 T nm f) (hC : XCS m0 nm m a cm (e :: t) g) (ok : SOK (e :: t)) (hn : n ≤ 8015) (h16 : A m0 16 n = 21) (h17 : A m0 17 n = ((tk : Nat) : Int)) (htk : tk ≤ 4000) (h18 : A m0 18 n = ((x : Nat) : Int)) (h19 : A m0 19 n = ((y : Nat) : Int)) (hx : XPcK m0 f o 2 x lo mid xa xc q s) (hE : XPcK m0 f (o + 1) 3 y (mid + 1) hi xc xb s r) (hxb : xb ≤ 8015) (hr4 : r ≤ 400) (hiT : hi ≤ T) (htot : tot (e :: t) + (hi - lo) ≤ 4000 ∧ (e :: t).length ≤ o + 1) : PK (fun v _ => UXP m0 nm t g (hi - lo) m a cm e v) (jm_Cm_expression N (jrc_Cm_fun N D) m (I (n : Nat)) (lsI lst)) := by
  have fr := XCS_fr hC
  have hd1 := xp_hd hx
  have hd2 := xp_hd hE
  refine pu_pk (w := m0) (exd_21 hn (tre fr (by decide) h16) (l_id ?_))
  cases D with
  | zero => exact pp_nl
  | succ D =>
  show PP _ (jm_Cm_compound N (jrc_Cm_fun N D) m (I (n : Nat)) (lsI lst)) _
  refine cmd_21 hn (tre fr (by decide) h16) hC.2 (tre fr (by decide) h17) (by omega) (fun hg => l_ck (fun _ => ?_))
  rw [tre fr (by decide) h18]
  refine l_bnd (pk_mo (IE D o 2 x lo mid xa xc q s m a cm e t g false hx (by omega) (by omega) (by omega) hC ok ⟨by omega, htot.2⟩) (fun m3 z hz => l_ck (fun _ => ?_)))
  obtain ⟨b3, cm3, e3, h3⟩ := hz
  have nu := UXQ_nu h3
  rw [tre (XCS_fr h3.1) (by decide) h19]
  refine l_bnd (pk_mo (IE D (o + 1) 3 y (mid + 1) hi xc xb s r m3 b3 cm3 e3 t g false hE hxb hr4 hiT h3.1 h3.2.1 ⟨by omega, by show t.length + 1 ≤ _; have : t.length + 1 ≤ o + 1 := htot.2; omega⟩) (fun m4 z hz => ?_))
  obtain ⟨b4, cm4, e4, h4⟩ := hz
  unfold jb_Cm_compound_455
  exact u_put (UXQ_mo (UXQ_tr h3 h4) (by omega)) (fun _ h5 => pp_end ⟨_, _, _, h5⟩)
/-- CATCH -/
theorem u_cat (IE : HUE N m0 T nm f) (hC : XCS m0 nm m a cm (e :: t) g) (ok : SOK (e :: t)) (hn : n ≤ 8015) (h16 : A m0 16 n = 19) (h17 : A m0 17 n = ((tk : Nat) : Int)) (htk : tk ≤ 4000) (h18 : A m0 18 n = ((x : Nat) : Int)) (hE : XPcK m0 f (o + 1) 3 x (lo + 1) hi xa xb q r) (hxb : xb ≤ 8015) (hr4 : r ≤ 400) (hiT : hi ≤ T) (htot : tot (e :: t) + (hi - lo) ≤ 4000 ∧ (e :: t).length ≤ o + 1) : PK (fun v _ => UXP m0 nm t g (hi - lo) m a cm e v) (jm_Cm_expression N (jrc_Cm_fun N D) m (I (n : Nat)) (lsI lst)) := by
  have fr := XCS_fr hC
  refine pu_pk (w := m0) (exd_19 hn (tre fr (by decide) h16) (l_id ?_))
  cases D with
  | zero => exact pp_nl
  | succ D =>
  show PP _ (jm_Cm_compound N (jrc_Cm_fun N D) m (I (n : Nat)) (lsI lst)) _
  refine cmd_19 hn (tre fr (by decide) h16) hC.2 (tre fr (by decide) h17) (by omega) (fun hg => ?_)
  rw [hC.1.2.1.2.2.1]
  refine u_put (UXQ_rf hC ok) (fun _ h1 => u_hook h1 (fun hb h2 => l_ck (fun _ => ?_)))
  have w1 : (ptc (ptc m a 29) (a + 1) 0).2.2.1 23 (a + 1) = 0 := ptc_n
  have a2 : a + 1 + 1 ≤ 23990 := h2.1.1.2.2.1.2.2
  generalize ptc (ptc m a 29) (a + 1) 0 = m2 at h2 w1
  rw [tre (XCS_fr h2.1) (by decide) h18]
  refine l_bnd (pk_mo (IE D (o + 1) 3 x (lo + 1) hi xa xb q r m2 (a + 1 + 1) cm e t g false hE hxb hr4 hiT h2.1 ok ⟨by omega, by omega⟩) (fun m3 z hz => ?_))
  obtain ⟨b3, cm3, e3, h3⟩ := hz
  refine u_put h3 (fun _ h4 => u_fg h4 ok (fun m4 b4 h5 => ?_))
  unfold jb_Cm_compound_455
  have w4 : m4.2.2.1 23 (a + 1) = 0 := (h5.2.2.2.2.2.2.1 (a + 1) (by omega)).trans w1
  refine u_arr (hs := [a + 1]) (UXQ_tr h2 h5) ⟨rfl, ⟨by omega, by omega⟩, fun h hm => (by cases hm), w4⟩ (fun j hj => ?_) (fun Z hZ _ => pp_end ⟨_, _, _, UXQ_mo hZ (by omega)⟩)
  rcases List.mem_cons.mp hj with rfl | y
  · omega
  · cases y
/-- APPLIED -/
theorem u_apl (hnx : n ≤ 8015) (IE : HUE N m0 T nm f) (hxb : xb ≤ 8015) (hr4 : r ≤ 400) (hiT : hi ≤ T) (htot : tot (e :: t) + KK ≤ 4000 ∧ (e :: t).length ≤ o + 1) : ∀ (k n lo xa q kf kk : Nat) (m2 : MS) (b cm2 : Nat) (e2 : List Nat × List Nat × Nat), RWcK m0 0 0 (AGcK m0 (XPcK m0 f (o + 1) 3)) k n lo hi xa xb q r → UXQ m0 nm t g kk m a cm e m2 b cm2 e2 → kk + (hi - lo) ≤ KK → PP (fun v (_ : Unit) (_ : MS) (_ : Unit) => UXP m0 nm t g KK m a cm e v) (jg_Cm_apply N (jrc_Cm_fun N D) kf m2 v2 v3 (I (n : Nat))) (some (m0, ()))
  | 0, n, lo, xa, q, kf, kk, m2, b, cm2, e2, h, hX, hk => h.elim
  | k + 1, n, lo, xa, q, kf, kk, m2, b, cm2, e2, h, hX, hk => by
    have hbE : BdE (AGcK m0 (XPcK m0 f (o + 1) 3)) := fun _ _ _ _ _ _ _ h => h.1
    obtain ⟨mid, c1, s, hE, h⟩ := h
    have hd := hbE _ _ _ _ _ _ _ hE
    unfold HDc at hd
    have hms : mid ≤ hi ∧ c1 ≤ xb ∧ s ≤ r := by
      rcases h with ⟨-, -, rfl, rfl, rfl⟩ | ⟨⟨-, k27⟩, n2, -, hw⟩
      · exact ⟨Nat.le_refl _, Nat.le_refl _, Nat.le_refl _⟩
      · have := (RW_hdK hbE hw).1
        unfold HDc at this
        exact ⟨by omega, by omega, by omega⟩
    have tt := hX.2.2.2.1
    have o1 : 1 ≤ n ∧ n ≤ 8015 ∧ c1 ≤ 8015 ∧ s ≤ 400 ∧ mid ≤ T ∧ tot (e2 :: t) + (mid - lo) ≤ 4000 := by clear h; exact ⟨by omega, by omega, by omega, by omega, by omega, by omega⟩
    obtain ⟨-, -, ka, ma, ca, h18, h19, ⟨hk6, h6, h6b⟩, hO, hca⟩ := hE
    cases kf with
    | zero => exact pp_nl
    | succ kf =>
    show PP _ (jb_Cm_apply_40 N (jrc_Cm_fun N D) (jg_Cm_apply N (jrc_Cm_fun N D) kf) m2 v2 v3 (I (n : Nat))) _
    have nx : ∀ m3 b3 cm3 e3, UXQ m0 nm t g (kk + (mid - lo)) m a cm e m3 b3 cm3 e3 → PP (fun v (_ : Unit) (_ : MS) (_ : Unit) => UXP m0 nm t g KK m a cm e v) (jg_Cm_apply N (jrc_Cm_fun N D) kf m3 v2 v3 (m3.2.2.1 21 n)) (some (m0, ())) := fun m3 b3 cm3 e3 hX3 => by
      have fr3 := XCS_fr hX3.1
      rcases h with ⟨rfl, h21, rfl, rfl, rfl⟩ | ⟨⟨hk1, hk27⟩, n2, h21, hw⟩
      · rw [tre fr3 (by decide) h21]
        cases kf with
        | zero => exact pp_nl
        | succ kf =>
        show PP _ (jb_Cm_apply_40 N (jrc_Cm_fun N D) (jg_Cm_apply N (jrc_Cm_fun N D) kf) m3 v2 v3 (I 0)) _
        unfold jb_Cm_apply_40
        rw [show decide (I 0 = (0 : Int32)) = true from rfl, br_t]
        exact pp_end ⟨_, _, _, UXQ_mo hX3 (by omega)⟩
      · have hw1 := (RW_hdK hbE hw).1
        unfold HDc at hw1
        rw [tre fr3 (by decide) h21]
        exact u_apl hnx IE hxb hr4 hiT htot k n2 mid c1 s kf (kk + (mid - lo)) m3 b3 cm3 e3 hw hX3 (by omega)
    unfold jb_Cm_apply_40
    rw [decide_eq_false (fun z => by
      have := (I_eq (x := ((n : Nat) : Int)) (y := 0) (by omega) (by omega) (by decide) (by decide)).mp z
      omega), br_f, i_nt2 (show n ≤ 100000 by omega), tre (XCS_fr hX.1) (by decide) h18]
    refine l_ck (fun _ => ?_)
    cases D with
    | zero => exact pp_nl
    | succ D =>
    show PP _ (bnd (jg_Cm_row N (jrc_Cm_fun N D) N m2 (I (ma : Nat))) _) _
    refine u_orow (o := o + 1) (KK := mid - lo) IE hO (by omega) o1.2.2.2.1 (by omega) (UXQ_rf hX.1 hX.2.1) (by omega) ⟨o1.2.2.2.2.2, by show t.length + 1 ≤ _; have : t.length + 1 ≤ o + 1 := htot.2; omega⟩ (fun m3 c3 cm3 e3 h3 => ?_)
    have h3 := UXQ_tr hX h3
    have a87 : ∀ t1, PP (fun v (_ : Unit) (_ : MS) (_ : Unit) => UXP m0 nm t g KK m a cm e v) (jb_Cm_apply_87 N (jrc_Cm_fun N (D + 1)) (jg_Cm_apply N (jrc_Cm_fun N (D + 1)) kf) m3 v2 v3 (I (n : Nat)) t1) (some (m0, ())) := fun t1 => by
      unfold jb_Cm_apply_87
      rw [i_nt2 (show n ≤ 100000 by omega)]
      exact u_put h3 (fun _ h4 => l_ck (fun _ => u_put h4 (fun _ h5 => l_ck (fun _ => u_put h5 (fun _ h6 => l_ck (fun _ => nx _ _ _ _ h6))))))
    unfold jb_Cm_apply_85
    exact l_br (fun _ => a87 _) (fun _ => l_ck (fun _ => l_br (fun _ => a87 _) (fun _ => a87 _)))
theorem u_app (IE : HUE N m0 T nm f) (hC : XCS m0 nm m a cm (e :: t) g) (ok : SOK (e :: t)) (hn : n ≤ 8015) (h16 : A m0 16 n = 15) (h17 : A m0 17 n = ((tk : Nat) : Int)) (htk : tk ≤ 4000) (h18 : A m0 18 n = ((x : Nat) : Int)) (h19 : A m0 19 n = ((m1 : Nat) : Int)) (hx : XPcK m0 f o 0 x lo mid xa xc q s) (hE : RWcK m0 0 0 (AGcK m0 (XPcK m0 f (o + 1) 3)) k m1 mid hi i xb s r) (hxc : xc ≤ 8015) (hxb : xb ≤ 8015) (hr4 : r ≤ 400) (hiT : hi ≤ T) (htot : tot (e :: t) + (hi - lo) ≤ 4000 ∧ (e :: t).length ≤ o + 1) : PK (fun v _ => UXP m0 nm t g (hi - lo) m a cm e v) (jm_Cm_expression N (jrc_Cm_fun N D) m (I (n : Nat)) (lsI lst)) := by
  have fr := XCS_fr hC
  have hd1 := xp_hd hx
  have hbE : BdE (AGcK m0 (XPcK m0 f (o + 1) 3)) := fun _ _ _ _ _ _ _ h => h.1
  have hd2 := (RW_hdK hbE hE).1
  unfold HDc at hd2
  refine pu_pk (w := m0) (exd_15 hn (tre fr (by decide) h16) (l_id ?_))
  cases D with
  | zero => exact pp_nl
  | succ D =>
  show PP _ (jb_Cm_apply_0 N (jrc_Cm_fun N D) (jg_Cm_apply N (jrc_Cm_fun N D) N) m (I (n : Nat)) (lsI lst)) _
  unfold jb_Cm_apply_0
  rw [i_nt2 (show n ≤ 100000 by omega), tre fr (by decide) h17]
  refine l_ck (fun _ => l_ntg (tk := tk) hC.2 rfl (by omega) (fun _ => l_ck (fun _ => ?_)))
  rw [tre fr (by decide) h18]
  refine l_bnd (pk_mo (IE D o 0 x lo mid xa xc q s m a cm e t g false hx hxc (by omega) (by omega) hC ok ⟨by omega, htot.2⟩) (fun m3 z hz => l_ck (fun _ => ?_)))
  obtain ⟨b3, cm3, e3, h3⟩ := hz
  rw [tre (XCS_fr h3.1) (by decide) h19]
  exact u_apl (KK := hi - lo) hn IE hxb hr4 hiT htot k m1 mid i s N (mid - lo) m3 b3 cm3 e3 hE h3 (by omega)
end
