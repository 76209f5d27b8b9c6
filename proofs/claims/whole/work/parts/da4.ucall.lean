/-! what compiling an E does to names, there alone: LISTS, names forgotten, CALLS, APPLIED, signs before one, fun A/N -/
set_option maxRecDepth 100000
section
variable {α β : Type} {m0 w0 m w m2 w2 m3 w3 v u w1 mS wS : MS} {K nm Nk W W2 : Nat → Nat} {N T D d o a a0 b b0 c cm cm0 cm2 cm3 q q0 r s lo lo0 mid hi i j f f2 n k k2 kk KK p p2 σ tk x xa xb xc mm M m1 lv y cl l2 : Nat} {Q Q0 Q2 Q3 Q4 : Nat → Nat} {sc sc0 sc2 sc3 t t2 : SCT} {e e2 e3 : List Nat × List Nat × Nat} {g lst : Bool} {L L1 L2 : List Nat} {idc fof cvr : Int → Int → Int} {z : Unit} {rt v1 v2 v3 v4 v5 v6 xx : Int32} {fc : MS → Unit → Option (MS × α)} {RU : MS → α → MS → β → Prop} {B : Option (MS × β)} {QU : MS → Prop} {AU : Option (MS × Unit)} {S : SF_Cm_fun}
theorem UXQ_nu (h : UXQ m0 nm t g k m a cm e m2 b cm2 e2) : tot (e2 :: t) ≤ tot (e :: t) + k := h.2.2.2.1
/-- names are taken back -/
theorem u_fg (h : UXQ m0 nm t g k m a cm e m2 b cm2 e2) (ok : SOK (e :: t)) (hh : ∀ m3 b3, UXQ m0 nm t g 0 m a cm e m3 b3 cm2 e → PP RU (fc m3 ()) B) : PP RU (bnd (jm_Cm_forget N m2 (I (tot (e :: t) : Nat))) fc) B := by
  obtain ⟨a2, -, n1, -, a5, a6⟩ := h
  have le := n1.length_le
  have e706 : m2.1 706 = I (tot (e2 :: t) : Nat) := a2.1.2.1.2.2.1
  have t4k : tot (e2 :: t) ≤ 4000 := a2.1.2.1.2.2.2.1
  have et : tot (e2 :: t) = tot t + e2.1.length := rfl
  have et0 : tot (e :: t) = tot t + e.1.length := rfl
  show PP RU (bnd (jb_Cm_forget_0 N () m2 (I (tot (e :: t) : Nat))) fc) B
  unfold jb_Cm_forget_0 jb_Cm_forget_30
  rw [e706, decI (by omega) (by omega) (by omega) (by omega)]
  by_cases z : e2.1.length ≤ e.1.length
  · have ee : e2.1 = e.1 := (n1.eq_of_length (by omega)).symm
    rw [decide_eq_true (by omega), br_t, lt_e, bnd_s]
    have : upI m2 706 (I (tot (e :: t) : Nat)) = m2 := upI_id (by rw [e706, et, et0, ee])
    rw [this]
    refine hh m2 b ⟨?_, ok, List.prefix_rfl, Nat.le_refl _, a5, a6⟩
    obtain ⟨f1, f2⟩ := e2
    obtain ⟨g1, g2⟩ := e
    have ee : f1 = g1 := ee
    subst ee
    exact a2
  · rw [decide_eq_false (by omega), br_f]
    have s1 : ∀ x, (ptc m2 b x).1 706 - I (tot (e :: t) : Nat) = I ((e2.1.length - e.1.length : Nat) : Int) := fun x => by
      rw [ptc_i (by decide), e706, I_sub]
      congr 1
      omega
    rw [bnd_as2]
    refine l_put a2.1.2.2.1.1 a2.1.2.2.1.2.2 (fun ha => ?_)
    have c1 := XCS_put (x := 16) a2 ha
    rw [s1, bnd_as2]
    refine l_put c1.1.2.2.1.1 c1.1.2.2.1.2.2 (fun ha1 => ?_)
    have c2 := XCS_put (x := I ((e2.1.length - e.1.length : Nat) : Int)) c1 ha1
    rw [lt_e, bnd_s]
    have fx : UFC m (ptc (ptc m2 b 16) (b + 1) (I ((e2.1.length - e.1.length : Nat) : Int))) a t.length := UFC_tr a6 (XFC_U (q := 0) (r := 0) (XFC_put (XFC_put XFC_rf (Nat.le_refl b)) (by omega))) a5.1
    generalize ptc (ptc m2 b 16) (b + 1) (I ((e2.1.length - e.1.length : Nat) : Int)) = m4 at c2 fx
    have cc : XCS m0 nm (upI m4 706 (I (tot (e :: t) : Nat))) (b + 2) cm2 (e :: t) g := by
      obtain ⟨⟨p1, p2, p3, p4, p5, p6, p7⟩, p8⟩ := c2
      obtain ⟨q1, q2, q3⟩ := p2.2.2.2.2
      refine ⟨⟨⟨fun k hk => by rw [upI_ne (by omega)]; exact p1.1 k hk, p1.2⟩, ⟨by rw [upI_ne (by decide)]; exact p2.1, p2.2.1, by rw [upI_at], by omega, ⟨q1, fun k x hk => q2 k x (pre_getd n1 hk), CNl_fr q3 rfl (fun _ _ => rfl)⟩⟩, ⟨by rw [upI_ne (by decide)]; exact p3.1, p3.2⟩, by rw [upI_ne (by decide)]; exact p4, p5, p6, ?_⟩, by rw [upI_ne (by decide)]; exact p8⟩
      have p7 : e2.1.length ≤ cm2 := p7
      show e.1.length ≤ cm2
      omega
    refine hh _ (b + 2) ⟨cc, ok, List.prefix_rfl, Nat.le_refl _, ⟨by omega, a5.2⟩, ⟨fun k k1 k2 => by rw [upI_ne k2]; exact fx.1 k k1 k2, fx.2⟩⟩
/-- the end of a LIST -/
theorem u_57 (h : UXQ m0 nm t g k m a cm e m2 b cm2 e2) (hn : n ≤ 8015) {RU : MS → Unit → MS → β → Prop} (hh : ∀ m3 b3, UXQ m0 nm t g k m a cm e m3 b3 cm2 e2 → PP RU (some (m3, ())) B) : PP RU (jb_Cm_list_57 N S () m2 (I (n : Nat))) B := by
  unfold jb_Cm_list_57 jb_Cm_list_93
  exact l_ck (fun _ => l_br (fun _ => hh _ _ h) (fun _ => u_put h (fun _ h1 => l_ck (fun _ => u_put h1 (fun _ h2 => hh _ _ h2)))))
/-- LISTS -/
theorem u_lst (IE : HUE N m0 T nm f) (hC : XCS m0 nm m a cm (e :: t) g) (ok : SOK (e :: t)) (hn : n ≤ 8015) (h16 : A m0 16 n = 7) (hT : TLcK m0 (XPcK m0 f (o + 1) 3) n lo hi xa q r) (hr4 : r ≤ 400) (hiT : hi ≤ T) (htot : tot (e :: t) + (hi - lo) ≤ 4000 ∧ (e :: t).length ≤ o + 1) : PK (fun v _ => UXP m0 nm t g (hi - lo) m a cm e v) (jm_Cm_expression N (jrc_Cm_fun N D) m (I (n : Nat)) (lsI lst)) := by
  obtain ⟨k, m1, mid, c1, s1, h18, h19, ⟨hk8, h6, h6b⟩, hE, hT⟩ := hT
  have fr := XCS_fr hC
  have bd : lo < mid ∧ mid < hi ∧ c1 ≤ n ∧ s1 ≤ r := by
    have h1 := OR_hdK (XP_bdK _ _ _) hE
    rcases hT with ⟨-, h2, h3, h4⟩ | ⟨-, x, c2, -, hx, h2⟩
    · omega
    · have := xp_hd hx
      omega
  refine pu_pk (w := m0) (exd_7 hn (tre fr (by decide) h16) (l_id ?_))
  cases D with
  | zero => exact pp_nl
  | succ D =>
  show PP _ (jb_Cm_list_0 N (jrc_Cm_fun N D) () m (I (n : Nat))) _
  unfold jb_Cm_list_0
  refine l_ck (fun _ => ?_)
  rw [i_nt2 (show n ≤ 100000 by omega), tre fr (by decide) h18]
  cases D with
  | zero => exact pp_nl
  | succ D =>
  show PP _ (bnd (jg_Cm_row N (jrc_Cm_fun N D) N m (I (m1 : Nat))) _) _
  refine u_orow (KK := mid - lo) IE hE (by omega) (by omega) (by omega) (UXQ_rf hC ok) (by omega) ⟨by omega, by omega⟩ (fun m3 c3 cm3 e3 h3 => ?_)
  have fr3 := XCS_fr h3.1
  refine l_ck (fun _ => ?_)
  have nu := UXQ_nu h3
  rcases hT with ⟨h20, hh, hs, h4⟩ | ⟨hh, x, c2, h20, hx, h2⟩
  · rw [tre fr3 (by decide) h20, show decide (I 0 = (0 : Int32)) = true from rfl, br_t]
    refine u_put h3 (fun _ h5 => ?_)
    unfold jm_Cm_term jb_Cm_term_0
    rw [bnd_as2]
    refine u_put h5 (fun _ h6 => ?_)
    rw [bnd_as2]
    refine u_put h6 (fun _ h7 => ?_)
    rw [bnd_s]
    exact u_57 (UXQ_mo h7 (by omega)) hn (fun m3 b3 h8 => pp_end ⟨_, _, _, h8⟩)
  · have hd := xp_hd hx
    rw [tre fr3 (by decide) h20, decide_eq_false (fun z => by
      have := (I_eq (x := ((x : Nat) : Int)) (y := 0) (by omega) (by omega) (by decide) (by decide)).mp z
      omega), br_f]
    refine l_ck (fun _ => ?_)
    refine l_bnd (pk_mo (IE (D + 1) (o + 1) 3 x (mid + 1) (hi - 1) c1 c2 s1 r m3 c3 cm3 e3 t g false hx (by omega) hr4 (by omega) h3.1 h3.2.1 ⟨by omega, by show t.length + 1 ≤ _; have : t.length + 1 ≤ o + 1 := htot.2; omega⟩) (fun m4 z hz => ?_))
    obtain ⟨b4, cm4, e4, h4⟩ := hz
    exact u_57 (UXQ_mo (UXQ_tr h3 h4) (by omega)) hn (fun m3 b3 h8 => pp_end ⟨_, _, _, h8⟩)
/-- CALLS -/
theorem u_call (cx : CVX N m0 w0 K T idc fof cvr) (IE : HUE N m0 T nm f) (hC : XCS m0 nm m a cm (e :: t) g) (ok : SOK (e :: t)) (hn : n ≤ 8015) (h16 : A m0 16 n = 14) (h17 : A m0 17 n = ((lo : Nat) : Int)) (h19 : A m0 19 n = ((m1 : Nat) : Int)) (h20 : A m0 20 n = ((k : Nat) : Int)) (hk6 : k ≤ 6) (hE : ORcK m0 1 26 (XPcK m0 f o 3) k m1 (lo + 2) (hi - 1) xa xb q r) (hxb : xb ≤ 8015) (hlh : lo + 3 ≤ hi) (hr4 : r ≤ 400) (hl4 : lo ≤ 4000) (hiT : hi ≤ T) (htot : tot (e :: t) + (hi - lo) ≤ 4000 ∧ (e :: t).length ≤ o + 1) : PK (fun v _ => UXP m0 nm t g (hi - lo) m a cm e v) (jm_Cm_expression N (jrc_Cm_fun N D) m (I (n : Nat)) (lsI lst)) := by
  have fr := XCS_fr hC
  refine pu_pk (w := m0) (exd_14 hn (tre fr (by decide) h16) (l_id ?_))
  cases D with
  | zero => exact pp_nl
  | succ D =>
  show PP _ (jb_Cm_call_0 N (jrc_Cm_fun N D) () m (I (n : Nat)) (lsI lst)) _
  have e96 : ∀ v3 v4 v5 v6, PP (fun v (_ : Unit) (_ : MS) (_ : Unit) => UXP m0 nm t g (hi - lo) m a cm e v) (jb_Cm_call_96 N (jrc_Cm_fun N D) () m (I (n : Nat)) (lsI lst) v3 v4 v5 v6) (some (m0, ())) := fun v3 v4 v5 v6 => by
    unfold jb_Cm_call_96
    refine l_ck (fun _ => ?_)
    rw [i_nt2 (show n ≤ 100000 by omega), tre fr (by decide) h19]
    cases D with
    | zero => exact pp_nl
    | succ D =>
    show PP _ (bnd (jg_Cm_row N (jrc_Cm_fun N D) N m (I (m1 : Nat))) _) _
    refine u_orow (KK := hi - lo) IE hE hxb hr4 (by omega) (UXQ_rf hC ok) (by omega) htot (fun m3 c3 cm3 e3 h3 => ?_)
    have a198 : ∀ t1, PP (fun v (_ : Unit) (_ : MS) (_ : Unit) => UXP m0 nm t g (hi - lo) m a cm e v) (jb_Cm_call_198 N (jrc_Cm_fun N (D + 1)) () m3 v3 v4 v6 t1) (some (m0, ())) := fun t1 => by
      unfold jb_Cm_call_198
      exact u_put h3 (fun _ h4 => u_put h4 (fun _ h5 => u_put h5 (fun _ h6 => l_ck (fun _ => u_put h6 (fun _ h7 => pp_end ⟨_, _, _, h7⟩)))))
    have a170 : ∀ t1, PP (fun v (_ : Unit) (_ : MS) (_ : Unit) => UXP m0 nm t g (hi - lo) m a cm e v) (jb_Cm_call_170 N (jrc_Cm_fun N (D + 1)) () m3 v5 t1) (some (m0, ())) := fun t1 => by
      unfold jb_Cm_call_170
      exact u_put h3 (fun _ h4 => u_put h4 (fun _ h5 => pp_end ⟨_, _, _, h5⟩))
    have a152 : ∀ t0, PP (fun v (_ : Unit) (_ : MS) (_ : Unit) => UXP m0 nm t g (hi - lo) m a cm e v) (jb_Cm_call_152 N (jrc_Cm_fun N (D + 1)) () m3 v5 t0) (some (m0, ())) := fun t0 => by
      unfold jb_Cm_call_152
      exact l_br (fun _ => a170 _) (fun _ => a170 _)
    unfold jb_Cm_call_147
    exact l_br (fun _ => l_br (fun _ => a198 _) (fun _ => a198 _)) (fun _ => l_br (fun _ => a152 _) (fun _ => l_br (fun _ => a152 _) (fun _ => l_br (fun _ => a152 _) (fun _ => l_br (fun _ => a152 _) (fun _ => l_br (fun _ => a152 _) (fun _ => a152 _))))))
  have e91 : ∀ v4 v5 v6, PP (fun v (_ : Unit) (_ : MS) (_ : Unit) => UXP m0 nm t g (hi - lo) m a cm e v) (jb_Cm_call_91 N (jrc_Cm_fun N D) () m (I (n : Nat)) (lsI lst) (I (lo : Nat)) v4 v5 v6) (some (m0, ())) := fun v4 v5 v6 => by
    unfold jb_Cm_call_91
    exact l_ntg (tk := lo) hC.2 rfl (by omega) (fun _ => e96 _ _ _ _)
  have e77 : ∀ v4 v5 v6, PP (fun v (_ : Unit) (_ : MS) (_ : Unit) => UXP m0 nm t g (hi - lo) m a cm e v) (jb_Cm_call_77 N (jrc_Cm_fun N D) () m (I (n : Nat)) (lsI lst) (I (lo : Nat)) v4 v5 v6) (some (m0, ())) := fun v4 v5 v6 => by
    unfold jb_Cm_call_77
    exact l_br (fun _ => e91 _ _ _) (fun _ => l_br (fun _ => e96 _ _ _ _) (fun _ => e91 _ _ _))
  have e18 : A m0 18 n = A m0 18 n := rfl
  unfold jb_Cm_call_0
  rw [i_nt2 (show n ≤ 100000 by omega), tre fr (by decide) e18, tre fr (by decide) h20, tre fr (by decide) h17]
  refine l_ck (fun _ => l_ck (fun _ => l_ck (fun _ => l_bnd (pk_mo (cx.1 m (A m0 18 n) ((k : Nat) : Int) fr) (fun v r h2 => ?_)))))
  rw [h2.1, h2.2]
  refine l_ck (fun _ => ?_)
  rw [tre fr (by decide) e18]
  refine l_seek cx fr ?_
  exact l_br (fun _ => l_br (fun _ => l_flt (tk := lo) (k := 6) rfl rfl (by omega) (by decide)) (fun _ => e77 _ _ _)) (fun _ => e77 _ _ _)
/-- fun ATOM / NUMBER -/
theorem u_fof (cx : CVX N m0 w0 K T idc fof cvr) (hC : XCS m0 nm m a cm (e :: t) g) (ok : SOK (e :: t)) (hn : n ≤ 8015) (h16 : A m0 16 n = 13) (h17 : A m0 17 n = ((lo : Nat) : Int)) (hl4 : lo ≤ 4000) : PK (fun v _ => UXP m0 nm t g k m a cm e v) (jm_Cm_expression N (jrc_Cm_fun N D) m (I (n : Nat)) (lsI lst)) := by
  have fr := XCS_fr hC
  refine pu_pk (w := m0) (exd_13 hn (tre fr (by decide) h16) (l_id ?_))
  cases D with
  | zero => exact pp_nl
  | succ D =>
  show PP _ (jm_Cm_compound N (jrc_Cm_fun N D) m (I (n : Nat)) (lsI lst)) _
  refine cmd_13 (tk := lo) hn (tre fr (by decide) h16) hC.2 (tre fr (by decide) h17) (by omega) (fun hg => l_id ?_)
  unfold jm_Cm_funOf jb_Cm_funOf_0 jb_Cm_funOf_48
  have e18 : A m0 18 n = A m0 18 n := rfl
  have e19 : A m0 19 n = A m0 19 n := rfl
  rw [i_nt2 (show n ≤ 100000 by omega), tre fr (by decide) e18, tre fr (by decide) e19]
  refine l_ck (fun _ => l_ck (fun _ => l_seek cx fr ?_))
  have fin : PP (fun v (_ : Unit) (_ : MS) (_ : Unit) => UXP m0 nm t g k m a cm e v) (bnd (jm_Co_put N m 7) (fun u50 _ => bnd (jm_Co_put N u50 (I (fof (A m0 18 n) (A m0 19 n)))) (fun u53 _ => some (u53, ())))) (some (m0, ())) :=
    u_put (UXQ_mo (UXQ_rf hC ok) (Nat.zero_le k)) (fun _ h4 => u_put h4 (fun _ h5 => pp_end ⟨_, _, _, h5⟩))
  refine l_br (fun _ => l_ck (fun _ => ?_)) (fun _ => fin)
  rw [tre fr (by decide) h17, i_suc]
  exact l_flt (tk := lo + 1) (k := 6) rfl rfl (by omega) (by decide)
/-- not, - -/
theorem u_neg (IE : HUE N m0 T nm f) (hC : XCS m0 nm m a cm (e :: t) g) (ok : SOK (e :: t)) (hn : n ≤ 8015) (h16 : A m0 16 n = 17 ∨ A m0 16 n = 18) (h18 : A m0 18 n = ((x : Nat) : Int)) (hE : XPcK m0 f (o + 1) 1 x (lo + 1) hi xa xb q r) (hxb : xb ≤ 8015) (hr4 : r ≤ 400) (hiT : hi ≤ T) (htot : tot (e :: t) + (hi - lo) ≤ 4000 ∧ (e :: t).length ≤ o + 1) : PK (fun v _ => UXP m0 nm t g (hi - lo) m a cm e v) (jm_Cm_expression N (jrc_Cm_fun N D) m (I (n : Nat)) (lsI lst)) := by
  have fr := XCS_fr hC
  have c33 : ∀ D, PP (fun v (_ : Unit) (_ : MS) (_ : Unit) => UXP m0 nm t g (hi - lo) m a cm e v) (jb_Cm_compound_33 N (jrc_Cm_fun N D) () m (I (n : Nat))) (some (m0, ())) := fun D => by
    unfold jb_Cm_compound_33 jb_Cm_compound_72
    refine l_ck (fun _ => ?_)
    rw [i_nt2 (show n ≤ 100000 by omega), tre fr (by decide) h18]
    refine l_bnd (pk_mo (IE D (o + 1) 1 x (lo + 1) hi xa xb q r m a cm e t g false hE hxb hr4 hiT hC ok ⟨by omega, by omega⟩) (fun m3 z hz => ?_))
    obtain ⟨b3, cm3, e3, h3⟩ := hz
    have h3 := UXQ_mo (k2 := hi - lo) h3 (by omega)
    exact l_ck (fun _ => l_br (fun _ => u_put h3 (fun _ h4 => pp_end ⟨_, _, _, h4⟩)) (fun _ => u_put h3 (fun _ h4 => pp_end ⟨_, _, _, h4⟩)))
  rcases h16 with h16 | h16
  · refine pu_pk (w := m0) (exd_17 hn (tre fr (by decide) h16) (l_id ?_))
    cases D with
    | zero => exact pp_nl
    | succ D =>
    show PP _ (jm_Cm_compound N (jrc_Cm_fun N D) m (I (n : Nat)) (lsI lst)) _
    exact cmd_17 hn (tre fr (by decide) h16) (c33 D)
  · refine pu_pk (w := m0) (exd_18 hn (tre fr (by decide) h16) (l_id ?_))
    cases D with
    | zero => exact pp_nl
    | succ D =>
    show PP _ (jm_Cm_compound N (jrc_Cm_fun N D) m (I (n : Nat)) (lsI lst)) _
    exact cmd_18 hn (tre fr (by decide) h16) (c33 D)
end
