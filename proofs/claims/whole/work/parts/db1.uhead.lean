/-! what compiling an E does to names, there alone: heads and GUARDS -/
set_option maxRecDepth 100000
/-- with a chain of its hooks -/
def UHQ (m0 : MS) (nm : Nat → Nat) (t : SCT) (k : Nat) (m : MS) (a cm : Nat) (e : List Nat × List Nat × Nat) (m2 : MS) (b cm2 : Nat) (e2 : List Nat × List Nat × Nat) (hs : List Nat) (v : Int32) : Prop := UXQ m0 nm t false k m a cm e m2 b cm2 e2 ∧ HKc m2 hs v ∧ ∀ h, h ∈ hs → a ≤ h ∧ h < b
def UHP (m0 : MS) (nm : Nat → Nat) (t : SCT) (k : Nat) (m : MS) (a cm : Nat) (e : List Nat × List Nat × Nat) (v : MS) (r : Int32) : Prop := ∃ (b cm2 : Nat) (e2 : List Nat × List Nat × Nat) (hs : List Nat), UHQ m0 nm t k m a cm e v b cm2 e2 hs r
section
variable {α β : Type} {m0 w0 m w m2 w2 m3 w3 m4 v u w1 mS wS : MS} {K nm Nk W W2 : Nat → Nat} {N T D d o a a0 a2 b b0 b4 c cm cm0 cm2 cm3 cm4 p pl ph q q0 r s lo lo0 mid hi i j f f2 n n1 k k2 kk KK kp p2 σ tk x xa xb xc xd mm M m1 lv y cl l2 : Nat} {sc sc0 sc2 sc3 t t2 : SCT} {e e0 e2 e3 e4 : List Nat × List Nat × Nat} {g g2 own lst : Bool} {hs : List Nat} {v1 v2 v3 v4 v5 vv xw : Int32} {RU : MS → α → MS → β → Prop} {B : Option (MS × β)} {fc : MS → Unit → Option (MS × α)} {RX : MS → Int32 → MS → β → Prop} {QU : MS → α → Prop} {AU : Option (MS × α)}
theorem pv_pk (h : PP (fun v r (_ : MS) (_ : Unit) => QU v r) AU (some (w, ()))) : PK QU AU := fun v r e => h v r w () e rfl
theorem UHQ_tr (h : UHQ m0 nm t k m a cm e m2 b cm2 e2 hs vv) (h2 : UXQ m0 nm t false k2 m2 b cm2 e2 m3 c cm3 e3) : UHQ m0 nm t (k + k2) m a cm e m3 c cm3 e3 hs vv := by
  obtain ⟨h1, h3, h4⟩ := h
  have h5 := UXQ_tr h1 h2
  refine ⟨h5, HKc_fr h3 (fun j hj => h2.2.2.2.2.2.2.1 j (h4 j hj).2), fun j hj => ⟨(h4 j hj).1, ?_⟩⟩
  have := (h4 j hj).2
  have := h2.2.2.2.2.1.1
  omega
theorem UHQ_mo (h : UHQ m0 nm t k m a cm e m2 b cm2 e2 hs vv) (hk : k ≤ k2) : UHQ m0 nm t k2 m a cm e m2 b cm2 e2 hs vv := ⟨UXQ_mo h.1 hk, h.2⟩
/-- PATTERNS of a head, own or not -/
theorem UPQ_713 (hC : XCS m0 nm m a cm (e :: t) false) (h : UPQ m0 nm t own k (upI m 713 xw) a cm e m4 b4 cm4 e4) : UXQ m0 nm t false k m a cm e (upI m4 713 0) b4 cm4 e4 := by
  obtain ⟨h1, h2, h3, h4, h5, h6⟩ := h
  have h7 := XFC_U (q := 0) (r := 0) (XFC_P h6)
  have n713 : m.1 713 = 0 := of_decide_eq_true (by have := hC.1.2.2.2.1; exact this)
  refine ⟨⟨PCS_713 h1 rfl, ?_⟩, h2, h3, h4, h5, ⟨fun k k1 k2 => ?_, h7.2⟩⟩
  · have e1 := h7.1 712 (by decide) (by decide)
    rw [upI_ne (by decide)] at e1
    rw [upI_ne (by decide), e1]
    exact hC.2
  · by_cases z : k = 713
    · rw [z, upI_at, n713]
    · have e1 := h7.1 k k1 k2
      rw [upI_ne z] at e1
      rw [upI_ne z, e1]
/-- GUARDS, or none -/
theorem u_gds (IE : HUE N m0 T nm f) (hxb : xb ≤ 8015) (hr4 : r ≤ 400) (hiT : mid ≤ T) (hX : UHQ m0 nm t k m a cm e m2 b cm2 e2 hs v4) (htot : tot (e2 :: t) + (mid - lo) ≤ 4000 ∧ t.length + 1 ≤ o + 1) (hn : n ≤ 8015) (h19 : A m0 19 n = ((x : Nat) : Int)) (hG : x = 0 ∨ ∃ kg, RWcK m0 1 26 (XPcK m0 f o 3) kg x lo mid xa xb q r) (hh : ∀ m3 b3 cm3 e3 hs3 vv, UHQ m0 nm t (k + (mid - lo)) m a cm e m3 b3 cm3 e3 hs3 vv → PP RX (some (m3, vv)) B) : PP RX (jb_Cm_tries_111 N (jrc_Cm_fun N D) (jg_Cm_tries N (jrc_Cm_fun N D) M) m2 (I (n : Nat)) v3 v4) B := by
  obtain ⟨hX, hk, hb⟩ := hX
  have hC := hX.1
  have fr := XCS_fr hC
  unfold jb_Cm_tries_111
  rw [i_nt2 (show n ≤ 100000 by omega), tre fr (by decide) h19]
  refine l_ck (fun _ => ?_)
  rcases hG with rfl | ⟨kg, hG⟩
  · rw [show decide (I ((0 : Nat) : Int) = (0 : Int32)) = true from rfl, br_t]
    exact hh m2 b cm2 e2 hs v4 ⟨UXQ_mo hX (by omega), hk, hb⟩
  have hd := (RW_hdK (XP_bdK _ _ _) hG).1
  unfold HDc at hd
  rw [decide_eq_false (fun z => by
    have := (I_eq (x := ((x : Nat) : Int)) (y := 0) (by omega) (by omega) (by decide) (by decide)).mp z
    omega), br_f, lt_e]
  have z712 : m2.1 712 = 0 := of_decide_eq_true (by have := hC.2; exact this)
  have cG : XCS m0 nm (upI m2 712 1) b cm2 (e2 :: t) true := XCS_712 hC rfl
  refine u_put (UXQ_rf cG hX.2.1) (fun _ h1 => u_put h1 (fun _ h2 => u_hook h2 (fun hb3 h3 => l_ck (fun _ => ?_))))
  have wv : ∀ x : MS, (ptc x (b + 1 + 1) v4).2.2.1 23 (b + 1 + 1) = v4 := fun x => ptc_n
  have wv := wv (ptc (ptc (upI m2 712 1) b 21) (b + 1) ((ptc (upI m2 712 1) b 21).1 706 - v3))
  generalize ptc (ptc (ptc (upI m2 712 1) b 21) (b + 1) ((ptc (upI m2 712 1) b 21).1 706 - v3)) (b + 1 + 1) v4 = mH at h3 wv
  rw [tre (XCS_fr h3.1) (by decide) h19, z712]
  refine u_grd (KK := mid - lo) IE hxb hr4 hiT ⟨by exact htot.1, htot.2⟩ (fun m3 c3 cm3 e3 h4 => ?_) kg x lo xa q M 0 mH (b + 1 + 1 + 1) cm2 e2 hG (UXQ_rf h3.1 h3.2.1) (by omega)
  have h5 := UXQ_tr h3 h4
  have c5 : XCS m0 nm (upI m3 712 0) c3 cm3 (e3 :: t) false := XCS_712 h5.1 rfl
  have b2k : b + 1 + 1 + 1 ≤ 23990 := h3.1.1.2.2.1.2.2
  have b1 : 1 ≤ b := hC.1.2.2.1.2.1
  have f5 : UFC m2 (upI m3 712 0) b t.length := by
    refine ⟨fun k k1 k2 => ?_, h5.2.2.2.2.2.2⟩
    by_cases z : k = 712
    · rw [z, upI_at, z712]
    · rw [upI_ne z, h5.2.2.2.2.2.1 k k1 k2, upI_ne z]
  have X6 : UXQ m0 nm t false (mid - lo) m2 b cm2 e2 (upI m3 712 0) c3 cm3 e3 := ⟨c5, h5.2.1, h5.2.2.1, by have := h5.2.2.2.1; omega, h5.2.2.2.2.1, f5⟩
  have X7 : UHQ m0 nm t (k + (mid - lo)) m a cm e (upI m3 712 0) c3 cm3 e3 hs v4 := UHQ_tr ⟨hX, hk, hb⟩ X6
  refine hh (upI m3 712 0) c3 cm3 e3 ((b + 1 + 1) :: hs) _ ⟨X7.1, ⟨rfl, ⟨by omega, by omega⟩, fun h' hm => by have := (hb h' hm).2; omega, ?_⟩, fun h hm => ?_⟩
  · have e1 : (upI m3 712 0).2.2.1 23 (b + 1 + 1) = v4 := (h4.2.2.2.2.2.2.1 (b + 1 + 1) (by omega)).trans wv
    rw [e1]
    exact X7.2.1
  · have := h4.2.2.2.2.1.1
    have := hX.2.2.2.2.1.1
    rcases List.mem_cons.mp hm with rfl | z
    · exact ⟨by omega, by omega⟩
    · exact X7.2.2 h z
/-- PATTERNS, one behind another -/
theorem u_pts (c : CTZ m0 w0 K T nm Nk) (cv : CTV m0 w0 K T) (hxb : xb ≤ 8015) (hiT : hi ≤ T) (htot : tot (e :: t) + KK ≤ 4000) (hh : ∀ m3 b3 cm3 e3 M, UPQ m0 nm t own KK m a cm e m3 b3 cm3 e3 → PP RX ((jg_Cm_tries N (jrc_Cm_fun N D) M).1 m3 v2 v3 v4 (I 0)) B) : ∀ (k n lo xa q M kk : Nat) (m2 : MS) (b cm2 : Nat) (e2 : List Nat × List Nat × Nat), RWcK m0 1 26 (PAcK m0 f) k n lo hi xa xb q r → UPQ m0 nm t own kk m a cm e m2 b cm2 e2 → kk + (hi - lo) ≤ KK → PP RX ((jg_Cm_tries N (jrc_Cm_fun N D) M).1 m2 v2 v3 v4 (I (n : Nat))) B
  | 0, n, lo, xa, q, M, kk, m2, b, cm2, e2, h, hX, hk => h.elim
  | k + 1, n, lo, xa, q, M, kk, m2, b, cm2, e2, h, hX, hk => by
    obtain ⟨mid, c1, s, hE, h⟩ := h
    have hd := PA_bdK _ _ _ _ _ _ _ _ hE
    unfold HDc at hd
    have hms : mid ≤ hi ∧ c1 ≤ xb := by
      rcases h with ⟨-, -, rfl, rfl, rfl⟩ | ⟨⟨-, k27⟩, n2, -, hw⟩
      · exact ⟨Nat.le_refl _, Nat.le_refl _⟩
      · have := (RW_hdK (PA_bdK _) hw).1
        unfold HDc at this
        exact ⟨by omega, by omega⟩
    have tt := hX.2.2.2.1
    have o1 : 1 ≤ n ∧ n ≤ 8015 ∧ c1 ≤ 8015 ∧ mid ≤ T ∧ tot (e2 :: t) + (mid - lo) ≤ 4000 := by clear h; exact ⟨by omega, by omega, by omega, by omega, by omega⟩
    cases M with
    | zero => exact pp_nl
    | succ M =>
    show PP RX (jb_Cm_tries_71 N (jrc_Cm_fun N D) (jg_Cm_tries N (jrc_Cm_fun N D) M) m2 v2 v3 v4 (I (n : Nat))) B
    unfold jb_Cm_tries_71
    rw [decide_eq_false (fun z => by
      have := (I_eq (x := ((n : Nat) : Int)) (y := 0) (by omega) (by omega) (by decide) (by decide)).mp z
      omega), br_f]
    unfold jr_Cm_pattern
    refine l_bnd (pk_mo (u_pat c cv f 300 n lo mid xa c1 q s m2 b cm2 e2 t own hE o1.2.2.1 o1.2.2.2.1 hX.1 hX.2.1 o1.2.2.2.2) (fun m3 z hz => ?_))
    obtain ⟨b3, cm3, e3, h3⟩ := hz
    have hX3 := UPQ_tr hX h3
    refine l_ck (fun _ => ?_)
    rw [i_nt2 (show n ≤ 100000 by omega)]
    have fr3 : FRC m0 m3 := hX3.1.1
    rcases h with ⟨rfl, h21, rfl, rfl, rfl⟩ | ⟨⟨hk1, hk27⟩, n2, h21, hw⟩
    · rw [tre fr3 (by decide) h21]
      exact hh _ _ _ _ M (UPQ_mo hX3 (by omega))
    · have hw1 := (RW_hdK (PA_bdK _) hw).1
      unfold HDc at hw1
      rw [tre fr3 (by decide) h21]
      exact u_pts c cv hxb hiT htot hh k n2 (mid + 1) c1 s M (kk + (mid - lo)) m3 b3 cm3 e3 hw hX3 (by omega)
/-- a head and its GUARDS -/
theorem u_try (c : CTZ m0 w0 K T nm Nk) (cv : CTV m0 w0 K T) (IE : HUE N m0 T nm f) (hC : XCS m0 nm m a cm (e :: t) false) (ok : SOK (e :: t)) (hn : n ≤ 8015) (h18 : A m0 18 n = ((p : Nat) : Int)) (hP : ORcK m0 1 26 (PAcK m0 f2) kp p pl ph xa xc q q) (hxc : xc ≤ 8015) (hpl : pl ≤ ph) (hpT : ph ≤ T) (hxb : xb ≤ 8015) (hr4 : r ≤ 400) (hiT : mid ≤ T) (htot : tot (e :: t) + ((ph - pl) + (mid - lo)) ≤ 4000 ∧ t.length + 1 ≤ o + 1) (h19 : A m0 19 n = ((x : Nat) : Int)) (hG : x = 0 ∨ ∃ kg, RWcK m0 1 26 (XPcK m0 f o 3) kg x lo mid xd xb q r) : PK (fun v r => UHP m0 nm t ((ph - pl) + (mid - lo)) m a cm e v r) ((jrc_Cm_fun N D).2.2.2.2.2.2.2.2.2.2.2.1 m v1 (I (n : Nat))) := by
  have fr := XCS_fr hC
  refine pv_pk (w := m0) ?_
  cases D with
  | zero => exact pp_nl
  | succ D =>
  show PP _ (jm_Cm_tries N (jrc_Cm_fun N D) m v1 (I (n : Nat))) _
  unfold jm_Cm_tries jb_Cm_tries_0
  rw [i_nt2 (show n ≤ 100000 by omega), tre fr (by decide) h18]
  refine l_ck (fun _ => ?_)
  rcases hP with ⟨-, rfl, hlo, -, -⟩ | ⟨-, hP⟩
  · rw [show decide (I ((0 : Nat) : Int) = (0 : Int32)) = true from rfl, br_t]
    exact u_gds (hs := []) IE hxb hr4 hiT ⟨UXQ_rf hC ok, rfl, fun h hm => (by cases hm)⟩ ⟨by omega, htot.2⟩ hn h19 hG (fun m3 b3 cm3 e3 hs3 vv h => pp_end ⟨_, _, _, _, UHQ_mo h (by omega)⟩)
  have hd := (RW_hdK (PA_bdK _) hP).1
  unfold HDc at hd
  rw [decide_eq_false (fun z => by
    have := (I_eq (x := ((p : Nat) : Int)) (y := 0) (by omega) (by omega) (by decide) (by decide)).mp z
    omega), br_f]
  refine u_put (UXQ_rf hC ok) (fun _ h1 => u_put h1 (fun _ h2 => u_hook h2 (fun hb3 h3 => ?_)))
  have wv : ∀ x : MS, (ptc x (a + 1 + 1) 0).2.2.1 23 (a + 1 + 1) = 0 := fun x => ptc_n
  have wv := wv (ptc (ptc m a 19) (a + 1) v1)
  generalize ptc (ptc (ptc m a 19) (a + 1) v1) (a + 1 + 1) 0 = mH at h3 wv
  have b2k : a + 1 + 1 + 1 ≤ 23990 := h3.1.1.2.2.1.2.2
  have rest : ∀ (own : Bool) (t1 : Int32), isb t1 = true → decide (t1 = 0) = !own → ∀ v3, PP (fun v r (_ : MS) (_ : Unit) => UHP m0 nm t ((ph - pl) + (mid - lo)) m a cm e v r) (jb_Cm_tries_57 N (jrc_Cm_fun N D) (jg_Cm_tries N (jrc_Cm_fun N D) N) mH (I (n : Nat)) v3 (I ((a + 1 + 1 : Nat) : Int)) t1) (some (m0, ())) := fun own t1 hb1 hown v3 => by
    unfold jb_Cm_tries_57
    have cO : PCS m0 nm (upI mH 713 t1) (a + 1 + 1 + 1) cm (e :: t) own := PCS_713 h3.1.1 hown
    rw [hb1, ck_t, lt_e, i_nt2 (show n ≤ 100000 by omega), tre (m := upI mH 713 t1) cO.1 (by decide) h18]
    refine l_ck (fun _ => ?_)
    refine u_pts (KK := ph - pl) (own := own) c cv hxc hpT (by omega) (fun m4 b4 cm4 e4 M h4 => ?_) kp p pl xa q N 0 (upI mH 713 t1) (a + 1 + 1 + 1) cm e hP (UPQ_rf cO ok) (by omega)
    have h5 := UPQ_713 h3.1 h4
    cases M with
    | zero => exact pp_nl
    | succ M =>
    show PP _ (jb_Cm_tries_71 N (jrc_Cm_fun N D) (jg_Cm_tries N (jrc_Cm_fun N D) M) m4 (I (n : Nat)) v3 (I ((a + 1 + 1 : Nat) : Int)) (I 0)) _
    unfold jb_Cm_tries_71
    rw [show decide (I 0 = (0 : Int32)) = true from rfl, br_t, lt_e]
    refine u_put h5 (fun _ h6 => ?_)
    have h7 := UXQ_tr h3 h6
    have nu := UXQ_nu h7
    have w4 := (h6.2.2.2.2.2.2.1 (a + 1 + 1) (by omega)).trans wv
    have le := h6.2.2.2.2.1.1
    refine u_gds (hs := [a + 1 + 1]) IE hxb hr4 hiT ⟨h7, ⟨rfl, ⟨by omega, by omega⟩, fun h hm => (by cases hm), w4⟩, fun h hm => ?_⟩ ⟨by omega, htot.2⟩ hn h19 hG (fun m3 b3 cm3 e3 hs3 vv h => pp_end ⟨_, _, _, _, UHQ_mo h (by omega)⟩)
    rcases List.mem_cons.mp hm with rfl | y
    · exact ⟨by omega, by omega⟩
    · cases y
  exact l_br (fun _ => rest false 0 rfl rfl _) (fun _ => rest true 1 rfl rfl _)
end
