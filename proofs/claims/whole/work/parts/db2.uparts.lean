/-! what compiling an E does to names, there alone: parts -/
set_option maxRecDepth 100000
section
variable {α β : Type} {m0 w0 m w m2 w2 m3 w3 m4 v u w1 mS wS : MS} {K nm Nk W W2 : Nat → Nat} {N T D d o a a0 a2 b b0 b4 c cm cm0 cm2 cm3 cm4 p pl ph q q0 r s lo lo0 mid hi i j f f2 n n1 k k2 kd kk KK kp p2 σ tk x xa xb xc xd mm M m1 lv y cl l2 : Nat} {sc sc0 sc2 sc3 t t2 : SCT} {e e0 e2 e3 e4 : List Nat × List Nat × Nat} {g g2 own lst : Bool} {hs : List Nat} {v1 v2 v3 v4 v5 vv xw : Int32} {RU : MS → α → MS → β → Prop} {B : Option (MS × β)} {fc : MS → Unit → Option (MS × α)} {RX : MS → Int32 → MS → β → Prop} {QU : MS → α → Prop} {AU : Option (MS × α)}
/-- names are taken back: the words so far are kept -/
theorem u_fg2 (h : UXQ m0 nm t g k m a cm e m2 b cm2 e2) (ok : SOK (e :: t)) (hh : ∀ m3 b3, UXQ m0 nm t g 0 m a cm e m3 b3 cm2 e → UFC m2 m3 b t.length → b ≤ b3 → PP RU (fc m3 ()) B) : PP RU (bnd (jm_Cm_forget N m2 (I (tot (e :: t) : Nat))) fc) B := by
  obtain ⟨a2, -, n1, -, a5, a6⟩ := h
  have le := n1.length_le
  have e706 : m2.1 706 = I (tot (e2 :: t) : Nat) := a2.1.2.1.2.2.1
  have t4k : tot (e2 :: t) ≤ 4000 := a2.1.2.1.2.2.2.1
  have et : tot (e2 :: t) = tot t + e2.1.length := rfl
  have et0 : tot (e :: t) = tot t + e.1.length := rfl
  show PP RU (bnd (jb_Cm_forget_0 N () m2 (I (tot (e :: t) : Nat))) fc) B
  unfold jb_Cm_forget_0 jb_Cm_forget_30
  rw [e706, decI (by omega) (by omega) (by omega) (by omega)]
  by_cases z : e2.1.length ≤ e.1.length
  · have ee : e2.1 = e.1 := (n1.eq_of_length (by omega)).symm
    rw [decide_eq_true (by omega), br_t, lt_e, bnd_s]
    have : upI m2 706 (I (tot (e :: t) : Nat)) = m2 := upI_id (by rw [e706, et, et0, ee])
    rw [this]
    refine hh m2 b ⟨?_, ok, List.prefix_rfl, Nat.le_refl _, a5, a6⟩ UFC_rf (Nat.le_refl _)
    obtain ⟨f1, f2⟩ := e2
    obtain ⟨g1, g2⟩ := e
    have ee : f1 = g1 := ee
    subst ee
    exact a2
  · rw [decide_eq_false (by omega), br_f]
    have s1 : ∀ x, (ptc m2 b x).1 706 - I (tot (e :: t) : Nat) = I ((e2.1.length - e.1.length : Nat) : Int) := fun x => by
      rw [ptc_i (by decide), e706, I_sub]
      congr 1
      omega
    rw [bnd_as2]
    refine l_put a2.1.2.2.1.1 a2.1.2.2.1.2.2 (fun ha => ?_)
    have c1 := XCS_put (x := 16) a2 ha
    rw [s1, bnd_as2]
    refine l_put c1.1.2.2.1.1 c1.1.2.2.1.2.2 (fun ha1 => ?_)
    have c2 := XCS_put (x := I ((e2.1.length - e.1.length : Nat) : Int)) c1 ha1
    rw [lt_e, bnd_s]
    have fb : UFC m2 (ptc (ptc m2 b 16) (b + 1) (I ((e2.1.length - e.1.length : Nat) : Int))) b t.length := XFC_U (q := 0) (r := 0) (XFC_put (XFC_put XFC_rf (Nat.le_refl b)) (by omega))
    have fx := UFC_tr a6 fb a5.1
    generalize ptc (ptc m2 b 16) (b + 1) (I ((e2.1.length - e.1.length : Nat) : Int)) = m4 at c2 fx fb
    have cc : XCS m0 nm (upI m4 706 (I (tot (e :: t) : Nat))) (b + 2) cm2 (e :: t) g := by
      obtain ⟨⟨p1, p2, p3, p4, p5, p6, p7⟩, p8⟩ := c2
      obtain ⟨q1, q2, q3⟩ := p2.2.2.2.2
      refine ⟨⟨⟨fun k hk => by rw [upI_ne (by omega)]; exact p1.1 k hk, p1.2⟩, ⟨by rw [upI_ne (by decide)]; exact p2.1, p2.2.1, by rw [upI_at], by omega, ⟨q1, fun k x hk => q2 k x (pre_getd n1 hk), CNl_fr q3 rfl (fun _ _ => rfl)⟩⟩, ⟨by rw [upI_ne (by decide)]; exact p3.1, p3.2⟩, by rw [upI_ne (by decide)]; exact p4, p5, p6, ?_⟩, by rw [upI_ne (by decide)]; exact p8⟩
      have p7 : e2.1.length ≤ cm2 := p7
      show e.1.length ≤ cm2
      omega
    refine hh _ (b + 2) ⟨cc, ok, List.prefix_rfl, Nat.le_refl _, ⟨by omega, a5.2⟩, ⟨fun k k1 k2 => by rw [upI_ne k2]; exact fx.1 k k1 k2, fx.2⟩⟩ ⟨fun k k1 k2 => by rw [upI_ne k2]; exact fb.1 k k1 k2, fb.2⟩ (by omega)
/-- hooks arrive: other words are kept -/
theorem u_arr2 {hs : List Nat} (h : UXQ m0 nm t g k m a cm e m4 b cm4 e4) (hk : HKc m4 hs v1) (ha : ∀ j, j ∈ hs → a ≤ j) (hh : ∀ Z, UXQ m0 nm t g k m a cm e Z b cm4 e4 → (∀ j, j ∉ hs → Z.2.2.1 23 j = m4.2.2.1 23 j) → PP RU (fc Z ()) B) : PP RU (bnd (hm_Co_arrive N m4 v1) fc) B := u_arr h hk ha (fun Z h1 h2 => hh Z h1 h2.2.2.2.1)
/-- a part, from any of both -/
theorem UPT (hE : PEc m0 f o kd n lo hi xa xb q r) : (1 ≤ n ∧ n ≤ xb ∧ lo < hi ∧ xa ≤ xb ∧ q ≤ r) ∧ ∃ kp p ph xc x glo m2 c1 s kb mb c2 : Nat, (A m0 18 n = ((p : Nat) : Int) ∧ ORcK m0 1 26 (PAcK m0 f) kp p lo ph xa xc q q ∧ lo ≤ ph) ∧ (A m0 19 n = ((x : Nat) : Int) ∧ (x = 0 ∨ ∃ kg, RWcK m0 1 26 (XPcK m0 f (o + 1) 3) kg x glo m2 xc c1 q s)) ∧ (A m0 20 n = ((mb : Nat) : Int) ∧ RWcK m0 1 26 (XPcK m0 f (o + 2) 3) kb mb (m2 + 1) hi c1 c2 s r) ∧ ((ph - lo) + (m2 - glo) + (hi - (m2 + 1)) ≤ hi - lo ∧ ph ≤ hi ∧ m2 ≤ hi ∧ m2 + 1 ≤ hi ∧ xc ≤ xb ∧ c1 ≤ xb ∧ c2 ≤ xb ∧ s ≤ r) := by
  have hd := PE_bd hE
  unfold HDc at hd
  have hbX : ∀ o, BdE (XPcK m0 f o 3) := fun o => XP_bdK f o 3
  refine ⟨by clear hE; omega, ?_⟩
  unfold PEc at hE
  by_cases z : kd = 2
  · rw [if_pos z] at hE
    obtain ⟨-, h16, htk, h18, x, kg, m2, c1, s, kb, mb, c2, ⟨h19, hx1, hg⟩, ⟨h20, hb⟩, hc2, h38⟩ := hE
    have d1 := (RW_hdK (hbX _) hg).1
    have d2 := (RW_hdK (hbX _) hb).1
    unfold HDc at d1 d2
    refine ⟨0, 0, lo, xa, x, lo, m2, c1, s, kb, mb, c2, ⟨h18, Or.inl ⟨rfl, rfl, rfl, rfl, rfl⟩, Nat.le_refl _⟩, ⟨h19, Or.inr ⟨kg, hg⟩⟩, ⟨h20, hb⟩, ?_⟩
    omega
  · rw [if_neg z] at hE
    obtain ⟨-, ph, ⟨hn, h16, htk, p, xc, x, m2, c1, s, kb, mb, c2, ⟨h18, hp⟩, ⟨h19, hg⟩, ⟨h20, hb⟩, hc2, h38⟩⟩ := hE
    have d0 : lo ≤ ph ∧ xa ≤ xc := by
      rcases hp with ⟨-, -, h1, h2, -⟩ | ⟨-, hp⟩
      · omega
      · have := (RW_hdK (PA_bdK f) hp).1
        unfold HDc at this
        omega
    have d2 := (RW_hdK (hbX _) hb).1
    unfold HDc at d2
    rcases hg with ⟨rfl, rfl, rfl, rfl⟩ | ⟨hx1, kg, hg⟩
    · refine ⟨1, p, m2, c1, 0, m2, m2, c1, s, kb, mb, c2, ⟨h18, hp, d0.1⟩, ⟨h19, Or.inl rfl⟩, ⟨h20, hb⟩, ?_⟩
      clear hp hb
      omega
    · have d1 := (RW_hdK (hbX _) hg).1
      unfold HDc at d1
      refine ⟨1, p, ph, xc, x, ph + 1, m2, c1, s, kb, mb, c2, ⟨h18, hp, d0.1⟩, ⟨h19, Or.inr ⟨kg, hg⟩⟩, ⟨h20, hb⟩, ?_⟩
      clear hp hb hg
      omega
/-- one part -/
theorem u_one {G : MS → Int32 → Int32 → Int32 → Int32 → Int32 → Option (MS × Int32)} (c : CTZ m0 w0 K T nm Nk) (cv : CTV m0 w0 K T) (IE : HUE N m0 T nm f) (hX : UHQ m0 nm t 0 m a cm e m2 b cm2 e hs v5) (ok : SOK (e :: t)) (hE : PEc m0 f o kd n lo hi xa xb q r) (hxb : xb ≤ 8015) (hr4 : r ≤ 400) (hiT : hi ≤ T) (htot : tot (e :: t) + (hi - lo) ≤ 4000 ∧ t.length + 1 ≤ o + 1) (hh : ∀ m3 b3 cm3 hs3 vv, UHQ m0 nm t 0 m a cm e m3 b3 cm3 e hs3 vv → PP RX (G m3 v2 v3 (lsI lst) vv (m3.2.2.1 21 n)) B) : PP RX (jb_Cm_parts_6 N (jrc_Cm_fun N D) G m2 v2 v3 (lsI lst) v5 (I (n : Nat))) B := by
  obtain ⟨⟨o1, o2, o3, o4, o5⟩, kp, p, ph, xc, x, glo, mp, c1, s, kb, mb, c2, ⟨h18, hP, o6⟩, ⟨h19, hG⟩, ⟨h20, hB⟩, ⟨o7, o8, o9, o10, o11, o12, o13, o14⟩⟩ := UPT hE
  have hn : n ≤ 8015 := by clear hB hG hP; omega
  obtain ⟨hX1, hk, hb⟩ := hX
  have hC := hX1.1
  unfold jb_Cm_parts_6
  rw [decide_eq_false (fun z => by
    have := (I_eq (x := ((n : Nat) : Int)) (y := 0) (by omega) (by omega) (by decide) (by decide)).mp z
    omega), br_f]
  refine l_bnd (pk_mo (u_try (T := T) (o := o + 1) (v1 := v2) c cv IE hC ok hn h18 hP (by omega) o6 (by omega) (by omega) (by omega) (by omega) ⟨by omega, by omega⟩ h19 hG) (fun mT r23 hz => ?_))
  obtain ⟨bT, cmT, eT, fs, hT⟩ := hz
  have e706 : m2.1 706 = I (tot (e :: t) : Nat) := hC.1.2.1.2.2.1
  rw [e706]
  have rest : ∀ {mU bU}, UHQ m0 nm t ((ph - lo) + (mp - glo)) m2 b cm2 e mU bU cmT eT fs r23 → PP RX (jb_Cm_parts_38 N (jrc_Cm_fun N D) G mU v2 v3 (lsI lst) v5 (I (n : Nat)) (I (tot (e :: t) : Nat)) r23) B := fun {mU bU} hU => by
    obtain ⟨hU1, hU2, hU3⟩ := hU
    have nu := UXQ_nu hU1
    unfold jb_Cm_parts_38
    rw [i_nt2 (show n ≤ 100000 by omega), tre (XCS_fr hU1.1) (by decide) h20]
    refine l_ck (fun _ => ?_)
    cases D with
    | zero => exact pp_nl
    | succ D =>
    refine l_bnd (pk_mo (pu_pk (w := m0) (u_bod (KK := hi - (mp + 1)) (D := D) (lst := lst) (o := o + 2) IE (by omega) hr4 hiT ⟨by omega, by show t.length + 1 ≤ _; omega⟩ kb mb (mp + 1) c1 s N 0 mU bU cmT eT hB (UXQ_rf hU1.1 hU1.2.1) (by omega))) (fun mB z hz => ?_))
    obtain ⟨bB, cmB, eB, hB1⟩ := hz
    have hB2 := UHQ_tr ⟨hU1, hU2, hU3⟩ hB1
    refine u_fg2 hB2.1 ok (fun m4 b4 h4 f4 hb4 => ?_)
    have hk4 : HKc m4 fs r23 := HKc_fr hB2.2.1 (fun j hj => f4.2.1 j (hB2.2.2 j hj).2)
    refine u_put (UXQ_rf h4.1 h4.2.1) (fun _ h5 => u_hook h5 (fun hb5 h6 => ?_))
    have wv : ∀ x : MS, (ptc x (b4 + 1) v5).2.2.1 23 (b4 + 1) = v5 := fun x => ptc_n
    have wv := wv (ptc m4 b4 18)
    generalize ptc (ptc m4 b4 18) (b4 + 1) v5 = m6 at h6 wv
    have hk6 : HKc m6 fs r23 := HKc_fr hk4 (fun j hj => h6.2.2.2.2.2.2.1 j (by have := (hB2.2.2 j hj).2; omega))
    have h7 := UXQ_tr h4 h6
    refine u_arr2 h7 hk6 (fun j hj => (hB2.2.2 j hj).1) (fun Z hZ hZw => l_ck (fun _ => ?_))
    have le1 := h4.2.2.2.2.1.1
    have le2 := hX1.2.2.2.2.1.1
    have b1 : 1 ≤ b4 := h4.1.1.2.2.1.2.1
    have b2k : b4 + 1 + 1 ≤ 23990 := h6.1.1.2.2.1.2.2
    have wz : Z.2.2.1 23 (b4 + 1) = v5 := (hZw (b4 + 1) (fun y => by have := (hB2.2.2 _ y).2; omega)).trans wv
    have hk9 := HKc_fr (m2 := Z) hk (fun j hj => hZ.2.2.2.2.2.2.1 j (hb j hj).2)
    refine hh Z (b4 + 1 + 1) cmB ((b4 + 1) :: hs) (I ((b4 + 1 : Nat) : Int)) ⟨UXQ_mo (UXQ_tr hX1 hZ) (by omega), ⟨rfl, ⟨by omega, by omega⟩, fun h' hm => by have := (hb h' hm).2; omega, by rw [wz]; exact hk9⟩, fun h hm => ?_⟩
    rcases List.mem_cons.mp hm with rfl | y
    · exact ⟨by omega, by omega⟩
    · have := hb h y
      exact ⟨this.1, by omega⟩
  refine l_br (fun _ => rest hT) (fun _ => u_put (UXQ_rf hT.1.1 hT.1.2.1) (fun _ h5 => rest (UHQ_mo (UHQ_tr hT h5) (Nat.le_refl _))))
/-- all parts -/
theorem u_pal (c : CTZ m0 w0 K T nm Nk) (cv : CTV m0 w0 K T) (IE : HUE N m0 T nm f) (ok : SOK (e :: t)) (hxb : xb ≤ 8015) (hr4 : r ≤ 400) (hiT : hi ≤ T) : ∀ (k n lo xa q M : Nat) (m2 : MS) (b cm2 : Nat) (hs : List Nat) (v5 : Int32), RWcK m0 1 27 (PEc m0 f o kd) k n lo hi xa xb q r → UHQ m0 nm t 0 m a cm e m2 b cm2 e hs v5 → tot (e :: t) + (hi - lo) ≤ 4000 ∧ t.length + 1 ≤ o + 1 → PP (fun v r (_ : MS) (_ : Unit) => ∃ b2 cm3 hs2, UHQ m0 nm t 0 m a cm e v b2 cm3 e hs2 r) (jg_Cm_parts N (jrc_Cm_fun N D) M m2 v2 v3 (lsI lst) v5 (I (n : Nat))) (some (m0, ()))
  | 0, n, lo, xa, q, M, m2, b, cm2, hs, v5, h, hX, hk => h.elim
  | k + 1, n, lo, xa, q, M, m2, b, cm2, hs, v5, h, hX, htot => by
    obtain ⟨mid, c1, s, hE, h⟩ := h
    have hd := PE_bd hE
    unfold HDc at hd
    have hms : mid ≤ hi ∧ c1 ≤ xb ∧ s ≤ r := by
      rcases h with ⟨-, -, rfl, rfl, rfl⟩ | ⟨⟨-, k27⟩, n2, -, hw⟩
      · exact ⟨Nat.le_refl _, Nat.le_refl _, Nat.le_refl _⟩
      · have := RW_xb PE_bE hw
        unfold HDc at this
        exact ⟨by omega, by omega, by omega⟩
    cases M with
    | zero => exact pp_nl
    | succ M =>
    show PP _ (jb_Cm_parts_6 N (jrc_Cm_fun N D) (jg_Cm_parts N (jrc_Cm_fun N D) M) m2 v2 v3 (lsI lst) v5 (I (n : Nat))) _
    refine u_one c cv IE hX ok hE (by omega) (by omega) (by omega) ⟨by omega, htot.2⟩ (fun m3 b3 cm3 hs3 vv h3 => ?_)
    have fr3 := XCS_fr h3.1.1
    rcases h with ⟨rfl, h21, rfl, rfl, rfl⟩ | ⟨⟨hk1, hk27⟩, n2, h21, hw⟩
    · rw [tre fr3 (by decide) h21]
      cases M with
      | zero => exact pp_nl
      | succ M =>
      show PP _ (jb_Cm_parts_6 N (jrc_Cm_fun N D) (jg_Cm_parts N (jrc_Cm_fun N D) M) m3 v2 v3 (lsI lst) vv (I 0)) _
      unfold jb_Cm_parts_6
      rw [show decide (I 0 = (0 : Int32)) = true from rfl, br_t]
      exact pp_end ⟨_, _, _, h3⟩
    · rw [tre fr3 (by decide) h21]
      have := RW_xb PE_bE hw
      unfold HDc at this
      exact u_pal c cv IE ok hxb hr4 hiT k n2 (mid + 1) c1 s M m3 b3 cm3 hs3 vv hw h3 ⟨by omega, htot.2⟩
/-- parts, or none -/
theorem u_par (c : CTZ m0 w0 K T nm Nk) (cv : CTV m0 w0 K T) (IE : HUE N m0 T nm f) (hC : XCS m0 nm m a cm (e :: t) false) (ok : SOK (e :: t)) (hE : ORcK m0 1 27 (PEc m0 f o kd) k n lo hi xa xb q r) (hxb : xb ≤ 8015) (hr4 : r ≤ 400) (hiT : hi ≤ T) (htot : tot (e :: t) + (hi - lo) ≤ 4000 ∧ t.length + 1 ≤ o + 1) : PK (fun v r => ∃ b2 cm3 hs2, UHQ m0 nm t 0 m a cm e v b2 cm3 e hs2 r) ((jrc_Cm_fun N D).2.2.1 m (I (n : Nat)) v2 v3 (lsI lst)) := by
  refine pv_pk (w := m0) ?_
  cases D with
  | zero => exact pp_nl
  | succ D =>
  show PP _ (jg_Cm_parts N (jrc_Cm_fun N D) N m v2 v3 (lsI lst) 0 (I (n : Nat))) _
  have h0 : UHQ m0 nm t 0 m a cm e m a cm e [] 0 := ⟨UXQ_rf hC ok, rfl, fun h hm => (by cases hm)⟩
  rcases hE with ⟨-, rfl, -⟩ | ⟨-, hE⟩
  · cases N with
    | zero => exact pp_nl
    | succ N =>
    show PP _ (jb_Cm_parts_6 (N + 1) (jrc_Cm_fun (N + 1) D) (jg_Cm_parts (N + 1) (jrc_Cm_fun (N + 1) D) N) m v2 v3 (lsI lst) 0 (I ((0 : Nat) : Int))) _
    unfold jb_Cm_parts_6
    rw [show decide (I ((0 : Nat) : Int) = (0 : Int32)) = true from rfl, br_t]
    exact pp_end ⟨_, _, _, h0⟩
  · exact u_pal c cv IE ok hxb hr4 hiT k n lo xa q N m a cm [] 0 hE h0 htot
end
