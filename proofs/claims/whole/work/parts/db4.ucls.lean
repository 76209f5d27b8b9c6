/-! what compiling an E does to names, there alone: a CLAUSE, FUN -/
set_option maxRecDepth 100000
section
variable {α β : Type} {m0 w0 m w m2 w2 m3 w3 m4 v u w1 mS wS : MS} {K nm Nk W W2 : Nat → Nat} {N T D d o a a0 a2 b b0 b4 c cm cm0 cm2 cm3 cm4 p pl ph pn q q0 r s lo lo0 mid hi i j f f2 n n1 k k2 kd kk KK kp p2 σ tk x xa xb xc xd mm M m1 lv y cl l2 : Nat} {sc sc0 sc2 sc3 t t2 : SCT} {e e0 e2 e3 e4 : List Nat × List Nat × Nat} {g g2 own lst : Bool} {hs : List Nat} {v1 v2 v3 v4 v5 v6 vv xw : Int32} {RU : MS → α → MS → β → Prop} {B : Option (MS × β)} {fc : MS → Unit → Option (MS × α)} {RX : MS → Int32 → MS → β → Prop} {QU : MS → α → Prop} {AU : Option (MS × α)}
/-- names are cut, no word -/
theorem u_cut (h : UXQ m0 nm t g k m a cm e m2 b cm2 e2) (ok : SOK (e :: t)) : UXQ m0 nm t g 0 m a cm e (upI m2 706 (I (tot (e :: t) : Nat))) b cm2 e := by
  obtain ⟨a2, -, n1, -, a5, a6⟩ := h
  have le := n1.length_le
  have t4k : tot (e2 :: t) ≤ 4000 := a2.1.2.1.2.2.2.1
  have et : tot (e2 :: t) = tot t + e2.1.length := rfl
  have et0 : tot (e :: t) = tot t + e.1.length := rfl
  refine ⟨?_, ok, List.prefix_rfl, Nat.le_refl _, a5, ⟨fun k k1 k2 => by rw [upI_ne k2]; exact a6.1 k k1 k2, a6.2⟩⟩
  obtain ⟨⟨p1, p2, p3, p4, p5, p6, p7⟩, p8⟩ := a2
  obtain ⟨q1, q2, q3⟩ := p2.2.2.2.2
  refine ⟨⟨⟨fun k hk => by rw [upI_ne (by omega)]; exact p1.1 k hk, p1.2⟩, ⟨by rw [upI_ne (by decide)]; exact p2.1, p2.2.1, by rw [upI_at], by omega, ⟨q1, fun k x hk => q2 k x (pre_getd n1 hk), CNl_fr q3 rfl (fun _ _ => rfl)⟩⟩, ⟨by rw [upI_ne (by decide)]; exact p3.1, p3.2⟩, by rw [upI_ne (by decide)]; exact p4, p5, p6, ?_⟩, by rw [upI_ne (by decide)]; exact p8⟩
  have p7 : e2.1.length ≤ cm2 := p7
  show e.1.length ≤ cm2
  omega
/-- a row that plays no part -/
theorem u_A {f : Nat → Int32} (h : UXQ m0 nm t g k m a cm e m2 b cm2 e2) (hj : 30 ≤ j ∧ j ≤ 32) : UXQ m0 nm t g k m a cm e (upA m2 j f) b cm2 e2 := by
  obtain ⟨⟨⟨p1, p2, p3, p4, p5, p6⟩, p8⟩, h2, h3, h4, h5, h6⟩ := h
  refine ⟨⟨⟨⟨p1.1, fun k hk => by rw [upA_no (by omega)]; exact p1.2 k hk⟩, ⟨p2.1, p2.2.1, p2.2.2.1, p2.2.2.2.1, CNl_fr p2.2.2.2.2 (upA_no (by omega)) (fun j _ => by rw [upA_no (by omega)])⟩, p3, p4, by rw [upA_no (by omega)]; exact p5, p6⟩, p8⟩, h2, h3, h4, h5, ⟨h6.1, fun j hj => by rw [upA_no (by omega)]; exact h6.2.1 j hj, fun j hj => by rw [upA_no (by omega)]; exact h6.2.2.1 j hj, fun j hj => by rw [upA_no (by omega)]; exact h6.2.2.2 j hj⟩⟩
/-- the list of what it holds: words alone -/
theorem u_hold : ∀ (M : Nat), (∀ (m2 : MS) (b : Nat) (v2 v3 v4 : Int32), UXQ m0 nm t g k m a cm e m2 b cm2 e2 → m2.2.2.1 32 = m.2.2.1 32 → PK (fun v _ => ∃ b3, UXQ m0 nm t g k m a cm e v b3 cm2 e2 ∧ v.2.2.1 32 = m.2.2.1 32) ((jg_Cm_hold N M).1 m2 v2 v3 v4)) ∧ ∀ (m2 : MS) (b : Nat) (v2 v3 v4 v5 v6 : Int32), UXQ m0 nm t g k m a cm e m2 b cm2 e2 → m2.2.2.1 32 = m.2.2.1 32 → PK (fun v _ => ∃ b3, UXQ m0 nm t g k m a cm e v b3 cm2 e2 ∧ v.2.2.1 32 = m.2.2.1 32) ((jg_Cm_hold N M).2 m2 v2 v3 v4 v5 v6)
  | 0 => ⟨fun _ _ _ _ _ _ _ => pk_none, fun _ _ _ _ _ _ _ _ _ => pk_none⟩
  | M + 1 => by
    obtain ⟨ih1, ih2⟩ := @u_hold M
    have a113 : ∀ (m2 : MS) (b : Nat) (v2 v3 v4 : Int32), UXQ m0 nm t g k m a cm e m2 b cm2 e2 → m2.2.2.1 32 = m.2.2.1 32 → PP (fun v (_ : Int32) (_ : MS) (_ : Unit) => ∃ b3, UXQ m0 nm t g k m a cm e v b3 cm2 e2 ∧ v.2.2.1 32 = m.2.2.1 32) (jb_Cm_hold_113 N (jg_Cm_hold N M) m2 v2 v3 v4) (some (m0, ())) := fun m2 b v2 v3 v4 h h32 => by
      unfold jb_Cm_hold_113
      exact fun v r _ _ x1 x2 => ih1 m2 b v2 v3 (v4 + 1) h h32 v r x1
    have a92 : ∀ (m2 : MS) (b : Nat) (v2 v3 v4 v5 v6 : Int32), UXQ m0 nm t g k m a cm e m2 b cm2 e2 → m2.2.2.1 32 = m.2.2.1 32 → PP (fun v (_ : Int32) (_ : MS) (_ : Unit) => ∃ b3, UXQ m0 nm t g k m a cm e v b3 cm2 e2 ∧ v.2.2.1 32 = m.2.2.1 32) (jb_Cm_hold_92 N (jg_Cm_hold N M) m2 v2 v3 v4 v5 v6) (some (m0, ())) := fun m2 b v2 v3 v4 v5 v6 h h32 => by
      unfold jb_Cm_hold_92
      exact l_br (fun _ => u_put h (fun _ h1 => a113 _ _ _ _ _ h1 (by rw [ptc_r (by decide)]; exact h32))) (fun _ => a113 _ _ _ _ _ h h32)
    have rec2 : ∀ (m2 : MS) (b : Nat) (v2 v3 v4 v5 v6 : Int32), UXQ m0 nm t g k m a cm e m2 b cm2 e2 → m2.2.2.1 32 = m.2.2.1 32 → PP (fun v (_ : Int32) (_ : MS) (_ : Unit) => ∃ b3, UXQ m0 nm t g k m a cm e v b3 cm2 e2 ∧ v.2.2.1 32 = m.2.2.1 32) ((jg_Cm_hold N M).2 m2 v2 v3 v4 v5 v6) (some (m0, ())) := fun m2 b v2 v3 v4 v5 v6 h h32 v r _ _ x1 x2 => ih2 m2 b v2 v3 v4 v5 v6 h h32 v r x1
    refine ⟨fun m2 b v2 v3 v4 h h32 => pv_pk (w := m0) ?_, fun m2 b v2 v3 v4 v5 v6 h h32 => pv_pk (w := m0) ?_⟩
    · show PP _ (jb_Cm_hold_11 N (jg_Cm_hold N M) m2 v2 v3 v4) _
      unfold jb_Cm_hold_11
      refine l_br (fun _ => pp_end ⟨b, h, h32⟩) (fun _ => l_ck (fun _ => l_br (fun _ => l_ck (fun _ => l_br (fun _ => a113 _ _ _ _ _ h h32) (fun _ => l_ck (fun _ => rec2 _ _ _ _ _ _ _ h h32)))) (fun _ => a113 _ _ _ _ _ h h32)))
    · show PP _ (jb_Cm_hold_60 N (jg_Cm_hold N M) m2 v2 v3 v4 v5 v6) _
      unfold jb_Cm_hold_60
      refine l_br (fun _ => a92 _ _ _ _ _ _ _ h h32) (fun _ => ?_)
      unfold hm_Co_at hb_Co_at_0 hb_Co_at_21 hb_Co_at_11 hb_Co_at_21
      have go : ∀ z : Int32, PP (fun v (_ : Int32) (_ : MS) (_ : Unit) => ∃ b3, UXQ m0 nm t g k m a cm e v b3 cm2 e2 ∧ v.2.2.1 32 = m.2.2.1 32) (bnd (some (m2, z)) (fun u11 r11 => br (decide (r11 = v5)) (jb_Cm_hold_92 N (jg_Cm_hold N M) u11 v2 v3 v4 v5 v6) ((jg_Cm_hold N M).2 u11 v2 v3 v4 v5 (v6 + 1)))) (some (m0, ())) := fun z => by
        rw [bnd_s]
        exact l_br (fun _ => a92 _ _ _ _ _ _ _ h h32) (fun _ => rec2 _ _ _ _ _ _ _ h h32)
      cases decide (v6 < 0) with
      | true => rw [br_t]; exact go _
      | false =>
        rw [br_f]
        cases decide (v6 < 24000) with
        | false => rw [br_f]; exact go _
        | true =>
          rw [br_t, bnd_ck]
          exact l_ck (fun _ => go _)
/-- a CLAUSE -/
theorem u_cls (c : CTZ m0 w0 K T nm Nk) (cv : CTV m0 w0 K T) (IE : HUE N m0 T nm f) (hC : XCS m0 nm m a cm (e :: t) false) (ok : SOK (e :: t)) (hE : PRTcK m0 (PAcK m0 f2) (XPcK m0 f (o + 2) 3) (XPcK m0 f (o + 1) 3) k n pl ph lo hi xa xb q r) (hpl : pl ≤ ph ∧ ph ≤ lo) (hxb : xb ≤ 8015) (hr4 : r ≤ 400) (hiT : hi ≤ T) (htot : tot (e :: t) + (hi - pl) ≤ 4000 ∧ t.length + 1 ≤ o + 2) : PK (fun v _ => ∃ b cm2, UXQ m0 nm t false 0 m a cm e v b cm2 e) ((jrc_Cm_fun N D).2.2.2.2.2.2.2.2.2.2.2.2 m (I (n : Nat)) v2 v3) := by
  obtain ⟨hn, h16, htk, p, xc, x, m2, c1, s, kb, mb, c2, ⟨h18, hp⟩, ⟨h19, hg⟩, ⟨h20, hb⟩, hc2, h38⟩ := hE
  have hbX : ∀ o, BdE (XPcK m0 f o 3) := fun o => XP_bdK f o 3
  have d2 := (RW_hdK (hbX _) hb).1
  unfold HDc at d2
  have d0 : xa ≤ xc := by
    rcases hp with ⟨-, -, h1, h2, -⟩ | ⟨-, hp⟩
    · omega
    · have := (RW_hdK (PA_bdK f2) hp).1
      unfold HDc at this
      omega
  obtain ⟨glo, hg, hgl⟩ : ∃ glo, (x = 0 ∨ ∃ kg, RWcK m0 1 26 (XPcK m0 f (o + 1) 3) kg x glo m2 xc c1 q s) ∧ (ph - pl) + (m2 - glo) + (hi - (m2 + 1)) ≤ hi - pl ∧ xc ≤ c1 ∧ m2 ≤ hi ∧ q ≤ s := by
    rcases hg with ⟨rfl, rfl, rfl, rfl⟩ | ⟨hx1, kg, hg⟩
    · exact ⟨m2, Or.inl rfl, by clear hp hb; omega⟩
    · have d1 := (RW_hdK (hbX _) hg).1
      unfold HDc at d1
      exact ⟨lo + 1, Or.inr ⟨kg, hg⟩, by clear hp hb hg; omega⟩
  have hn8 : n ≤ 8015 := by clear hp hb hg; omega
  refine pu_pk (w := m0) ?_
  cases D with
  | zero => exact pp_nl
  | succ D =>
  show PP _ (jb_Cm_clause_0 N (jrc_Cm_fun N D) () m (I (n : Nat)) v2 v3) _
  unfold jb_Cm_clause_0
  rw [hC.1.2.1.2.2.1]
  refine l_bnd (pk_mo (u_try (T := T) (o := o + 1) (v1 := v2) c cv IE hC ok hn8 h18 hp (by omega) hpl.1 (by omega) (by omega) (by omega) (by omega) ⟨by omega, by omega⟩ h19 hg) (fun mT r2 hz => ?_))
  obtain ⟨bT, cmT, eT, fs, hT⟩ := hz
  have nu := UXQ_nu hT.1
  refine u_put (UXQ_rf hT.1.1 hT.1.2.1) (fun _ h1 => u_put h1 (fun _ h2 => u_put h2 (fun _ h3 => l_ck (fun _ => ?_))))
  have h4 := UHQ_tr hT h3
  have n4 := UXQ_nu h4.1
  rw [i_nt2 (show n ≤ 100000 by omega), tre (XCS_fr h4.1.1) (by decide) h20]
  cases D with
  | zero => exact pp_nl
  | succ D =>
  refine l_bnd (pk_mo (pu_pk (w := m0) (u_bod (KK := hi - (m2 + 1)) (D := D) (lst := true) (o := o + 2) IE (by omega) hr4 hiT ⟨by omega, by show t.length + 1 ≤ _; omega⟩ kb mb (m2 + 1) c1 s N 0 _ _ cmT eT hb (UXQ_rf h4.1.1 h4.1.2.1) (by omega))) (fun mB z hz => ?_))
  obtain ⟨bB, cmB, eB, hB1⟩ := hz
  have hB2 := UHQ_tr h4 hB1
  refine u_put (UXQ_rf hB2.1.1 hB2.1.2.1) (fun _ h5 => ?_)
  have h6 := UHQ_tr hB2 h5
  rw [lt_e]
  refine u_arr2 (u_cut h6.1 ok) (HKc_fr h6.2.1 (fun j _ => rfl)) (fun j hj => (h6.2.2 j hj).1) (fun Z hZ _ => pp_end ⟨_, _, hZ⟩)
end
